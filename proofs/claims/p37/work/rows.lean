section
-- ===== PART A: goes FIRST, ahead of the names: the tables' words, and 'selects' of the private methods out of them =====
/-- a private method of a class that the tables say can be made, by its rows of tables_1 -/
def lw_okq (q : MethodName × Nat) : Prop := (q.1.cls ≠ "java/lang/invoke/MethodHandle" ∧ q.1.cls ≠ "java/lang/invoke/VarHandle") ∧ Cond.instantiable q.1.cls q.2 ∈ tables_1 ∧ Cond.privateMethod q.1 ∈ tables_1 ∧ Cond.instanceMethod q.1 ∈ tables_1
theorem lw_p0 : lw_okq (⟨"java/lang/Throwable", "fillInStackTrace", "(I)Ljava/lang/Throwable;"⟩, 6) := ⟨⟨by decide +kernel, by decide +kernel⟩, List.mem_of_getElem? (i := 228) (by decide +kernel), List.mem_of_getElem? (i := 226) (by decide +kernel), List.mem_of_getElem? (i := 227) (by decide +kernel)⟩
theorem lw_p1 : lw_okq (⟨"TwinHashTables$Rows", "placeOf", "(II)I"⟩, 5) := ⟨⟨by decide +kernel, by decide +kernel⟩, List.mem_of_getElem? (i := 55) (by decide +kernel), List.mem_of_getElem? (i := 280) (by decide +kernel), List.mem_of_getElem? (i := 281) (by decide +kernel)⟩
theorem lw_p2 : lw_okq (⟨"TwinHashTables$Rows", "firstOf", "(I)I"⟩, 5) := ⟨⟨by decide +kernel, by decide +kernel⟩, List.mem_of_getElem? (i := 55) (by decide +kernel), List.mem_of_getElem? (i := 289) (by decide +kernel), List.mem_of_getElem? (i := 290) (by decide +kernel)⟩
theorem lw_p3 : lw_okq (⟨"TwinHashTables$Rows", "after", "(I)I"⟩, 5) := ⟨⟨by decide +kernel, by decide +kernel⟩, List.mem_of_getElem? (i := 55) (by decide +kernel), List.mem_of_getElem? (i := 300) (by decide +kernel), List.mem_of_getElem? (i := 301) (by decide +kernel)⟩
theorem lw_p4 : lw_okq (⟨"TwinHashTables", "insertIntoBoth", "(I)V"⟩, 3) := ⟨⟨by decide +kernel, by decide +kernel⟩, List.mem_of_getElem? (i := 13) (by decide +kernel), List.mem_of_getElem? (i := 338) (by decide +kernel), List.mem_of_getElem? (i := 339) (by decide +kernel)⟩
theorem lw_p5 : lw_okq (⟨"TwinHashTables$Extendible", "splitBucket", "(II)V"⟩, 8) := ⟨⟨by decide +kernel, by decide +kernel⟩, List.mem_of_getElem? (i := 49) (by decide +kernel), List.mem_of_getElem? (i := 348) (by decide +kernel), List.mem_of_getElem? (i := 349) (by decide +kernel)⟩
theorem lw_p6 : lw_okq (⟨"TwinHashTables$Extendible", "doubleDirectory", "()V"⟩, 8) := ⟨⟨by decide +kernel, by decide +kernel⟩, List.mem_of_getElem? (i := 49) (by decide +kernel), List.mem_of_getElem? (i := 352) (by decide +kernel), List.mem_of_getElem? (i := 353) (by decide +kernel)⟩
theorem lw_p7 : lw_okq (⟨"TwinHashTables$Extendible", "setDepth", "(II)V"⟩, 8) := ⟨⟨by decide +kernel, by decide +kernel⟩, List.mem_of_getElem? (i := 49) (by decide +kernel), List.mem_of_getElem? (i := 356) (by decide +kernel), List.mem_of_getElem? (i := 357) (by decide +kernel)⟩
theorem lw_p8 : lw_okq (⟨"TwinHashTables$Extendible", "setDepths", "(III)V"⟩, 8) := ⟨⟨by decide +kernel, by decide +kernel⟩, List.mem_of_getElem? (i := 49) (by decide +kernel), List.mem_of_getElem? (i := 360) (by decide +kernel), List.mem_of_getElem? (i := 361) (by decide +kernel)⟩
theorem lw_p9 : lw_okq (⟨"TwinHashTables$Rows", "empty", "(I)V"⟩, 5) := ⟨⟨by decide +kernel, by decide +kernel⟩, List.mem_of_getElem? (i := 55) (by decide +kernel), List.mem_of_getElem? (i := 368) (by decide +kernel), List.mem_of_getElem? (i := 369) (by decide +kernel)⟩
theorem lw_p10 : lw_okq (⟨"TwinHashTables$Linear", "fullAt", "(II)I"⟩, 7) := ⟨⟨by decide +kernel, by decide +kernel⟩, List.mem_of_getElem? (i := 104) (by decide +kernel), List.mem_of_getElem? (i := 397) (by decide +kernel), List.mem_of_getElem? (i := 398) (by decide +kernel)⟩
theorem lw_p11 : lw_okq (⟨"TwinHashTables$Linear", "splitNext", "()V"⟩, 7) := ⟨⟨by decide +kernel, by decide +kernel⟩, List.mem_of_getElem? (i := 104) (by decide +kernel), List.mem_of_getElem? (i := 401) (by decide +kernel), List.mem_of_getElem? (i := 402) (by decide +kernel)⟩
theorem lw_p12 : lw_okq (⟨"TwinHashTables", "emptyAll", "()V"⟩, 3) := ⟨⟨by decide +kernel, by decide +kernel⟩, List.mem_of_getElem? (i := 13) (by decide +kernel), List.mem_of_getElem? (i := 413) (by decide +kernel), List.mem_of_getElem? (i := 414) (by decide +kernel)⟩
theorem lw_p13 : lw_okq (⟨"TwinHashTables", "checkSlot", "(I)V"⟩, 3) := ⟨⟨by decide +kernel, by decide +kernel⟩, List.mem_of_getElem? (i := 13) (by decide +kernel), List.mem_of_getElem? (i := 468) (by decide +kernel), List.mem_of_getElem? (i := 469) (by decide +kernel)⟩
theorem lw_p14 : lw_okq (⟨"TwinHashTables", "keyOfRow", "(LTwinHashTables$Rows;II)I"⟩, 3) := ⟨⟨by decide +kernel, by decide +kernel⟩, List.mem_of_getElem? (i := 13) (by decide +kernel), List.mem_of_getElem? (i := 501) (by decide +kernel), List.mem_of_getElem? (i := 502) (by decide +kernel)⟩
theorem lw_p15 : lw_okq (⟨"TwinHashTables$Rows", "entryBefore", "(II)I"⟩, 5) := ⟨⟨by decide +kernel, by decide +kernel⟩, List.mem_of_getElem? (i := 55) (by decide +kernel), List.mem_of_getElem? (i := 532) (by decide +kernel), List.mem_of_getElem? (i := 533) (by decide +kernel)⟩
def lw_privs_1 : List (MethodName × Nat) := [(⟨"java/lang/Throwable", "fillInStackTrace", "(I)Ljava/lang/Throwable;"⟩, 6), (⟨"TwinHashTables$Rows", "placeOf", "(II)I"⟩, 5), (⟨"TwinHashTables$Rows", "firstOf", "(I)I"⟩, 5), (⟨"TwinHashTables$Rows", "after", "(I)I"⟩, 5), (⟨"TwinHashTables", "insertIntoBoth", "(I)V"⟩, 3), (⟨"TwinHashTables$Extendible", "splitBucket", "(II)V"⟩, 8), (⟨"TwinHashTables$Extendible", "doubleDirectory", "()V"⟩, 8), (⟨"TwinHashTables$Extendible", "setDepth", "(II)V"⟩, 8), (⟨"TwinHashTables$Extendible", "setDepths", "(III)V"⟩, 8), (⟨"TwinHashTables$Rows", "empty", "(I)V"⟩, 5), (⟨"TwinHashTables$Linear", "fullAt", "(II)I"⟩, 7), (⟨"TwinHashTables$Linear", "splitNext", "()V"⟩, 7), (⟨"TwinHashTables", "emptyAll", "()V"⟩, 3), (⟨"TwinHashTables", "checkSlot", "(I)V"⟩, 3), (⟨"TwinHashTables", "keyOfRow", "(LTwinHashTables$Rows;II)I"⟩, 3), (⟨"TwinHashTables$Rows", "entryBefore", "(II)I"⟩, 5)]
theorem lw_r1 : ∀ q ∈ lw_privs_1, lw_okq q := List.forall_mem_cons.mpr ⟨lw_p0, List.forall_mem_cons.mpr ⟨lw_p1, List.forall_mem_cons.mpr ⟨lw_p2, List.forall_mem_cons.mpr ⟨lw_p3, List.forall_mem_cons.mpr ⟨lw_p4, List.forall_mem_cons.mpr ⟨lw_p5, List.forall_mem_cons.mpr ⟨lw_p6, List.forall_mem_cons.mpr ⟨lw_p7, List.forall_mem_cons.mpr ⟨lw_p8, List.forall_mem_cons.mpr ⟨lw_p9, List.forall_mem_cons.mpr ⟨lw_p10, List.forall_mem_cons.mpr ⟨lw_p11, List.forall_mem_cons.mpr ⟨lw_p12, List.forall_mem_cons.mpr ⟨lw_p13, List.forall_mem_cons.mpr ⟨lw_p14, List.forall_mem_cons.mpr ⟨lw_p15, fun _ h => absurd h List.not_mem_nil⟩⟩⟩⟩⟩⟩⟩⟩⟩⟩⟩⟩⟩⟩⟩⟩
theorem lw_p16 : lw_okq (⟨"TwinHashTables$Extendible", "canMerge", "(I)Z"⟩, 8) := ⟨⟨by decide +kernel, by decide +kernel⟩, List.mem_of_getElem? (i := 49) (by decide +kernel), List.mem_of_getElem? (i := 536) (by decide +kernel), List.mem_of_getElem? (i := 537) (by decide +kernel)⟩
theorem lw_p17 : lw_okq (⟨"TwinHashTables$Extendible", "mergeBuckets", "(II)V"⟩, 8) := ⟨⟨by decide +kernel, by decide +kernel⟩, List.mem_of_getElem? (i := 49) (by decide +kernel), List.mem_of_getElem? (i := 544) (by decide +kernel), List.mem_of_getElem? (i := 545) (by decide +kernel)⟩
theorem lw_p18 : lw_okq (⟨"TwinHashTables$Extendible", "halveWhilePossible", "()V"⟩, 8) := ⟨⟨by decide +kernel, by decide +kernel⟩, List.mem_of_getElem? (i := 49) (by decide +kernel), List.mem_of_getElem? (i := 553) (by decide +kernel), List.mem_of_getElem? (i := 554) (by decide +kernel)⟩
theorem lw_p19 : lw_okq (⟨"TwinHashTables$Extendible", "hasDepth", "(I)Z"⟩, 8) := ⟨⟨by decide +kernel, by decide +kernel⟩, List.mem_of_getElem? (i := 49) (by decide +kernel), List.mem_of_getElem? (i := 557) (by decide +kernel), List.mem_of_getElem? (i := 558) (by decide +kernel)⟩
theorem lw_p20 : lw_okq (⟨"TwinHashTables$Linear", "takeBackSplit", "()V"⟩, 7) := ⟨⟨by decide +kernel, by decide +kernel⟩, List.mem_of_getElem? (i := 104) (by decide +kernel), List.mem_of_getElem? (i := 566) (by decide +kernel), List.mem_of_getElem? (i := 567) (by decide +kernel)⟩
def lw_privs_2 : List (MethodName × Nat) := [(⟨"TwinHashTables$Extendible", "canMerge", "(I)Z"⟩, 8), (⟨"TwinHashTables$Extendible", "mergeBuckets", "(II)V"⟩, 8), (⟨"TwinHashTables$Extendible", "halveWhilePossible", "()V"⟩, 8), (⟨"TwinHashTables$Extendible", "hasDepth", "(I)Z"⟩, 8), (⟨"TwinHashTables$Linear", "takeBackSplit", "()V"⟩, 7)]
theorem lw_r2 : ∀ q ∈ lw_privs_2, lw_okq q := List.forall_mem_cons.mpr ⟨lw_p16, List.forall_mem_cons.mpr ⟨lw_p17, List.forall_mem_cons.mpr ⟨lw_p18, List.forall_mem_cons.mpr ⟨lw_p19, List.forall_mem_cons.mpr ⟨lw_p20, fun _ h => absurd h List.not_mem_nil⟩⟩⟩⟩⟩
def lw_privs : List (MethodName × Nat) := lw_privs_1 ++ (lw_privs_2)
def lw_tbl : List Cond := k2_sels lw_privs ++ tables_1
theorem lw_privs_ok : ∀ q ∈ lw_privs, lw_okq q := by
  show ∀ q ∈ lw_privs_1 ++ (lw_privs_2), lw_okq q
  exact List.forall_mem_append.mpr ⟨lw_r1, lw_r2⟩
end
section
/-! ===== BEGIN words of one list among another's, by their places ===== -/
theorem goodIn_r {big : List Cond} (ws : List Cond) (ps : List Nat) (hp : ws = ps.filterMap (fun i => big[i]?)) (h : ws.all goodWord = true) : GoodIn big ws := by
  intro w hw
  have h1 := List.all_eq_true.mp h w hw
  rw [hp] at hw
  obtain ⟨i, -, hi⟩ := List.mem_filterMap.mp hw
  have hm : w ∈ big := by first | exact List.mem_of_getElem? hi | exact List.getElem?_mem hi
  exact ⟨hm, good_of_word h1⟩
theorem goodIn_app {big a b : List Cond} (ha : GoodIn big a) (hb : GoodIn big b) : GoodIn big (a ++ b) := fun w h => (List.mem_append.mp h).elim (ha w) (hb w)
theorem goodIn_ca {big a b : List Cond} {c : Cond} (ha : GoodIn big (c :: a)) (hb : GoodIn big b) : GoodIn big (c :: (a ++ b)) := fun w h => (List.mem_cons.mp h).elim (fun e => ha w (List.mem_cons.mpr (Or.inl e))) (fun h => (List.mem_append.mp h).elim (fun h => ha w (List.mem_cons.mpr (Or.inr h))) (hb w))
theorem goodIn_sub {big ws : List Cond} (hm : ∀ w ∈ ws, w ∈ big) (h : ws.all goodWord = true) : GoodIn big ws := fun w hw => ⟨hm w hw, good_of_word (List.all_eq_true.mp h w hw)⟩
/-! ===== END ===== -/

/-! ===== BEGIN exceptions that leave a method, and their catching by the caller (launches without stack traces) ===== -/
section VXA
/-! The laws vx_back, vx_callV, vx_callS, vx_callSW, vx_throw0, vx_throwS follow proofs of the library, with one case more: JvmDerived/Free/Laws.lean (Back.of_free), Shelf42/LK1.lean (callV, callS), Shelf/KitTraced.lean (throwNew0V, throwNewS). -/
/-- where a method has thrown q: the class by its name, the cell, what was written, the world -/
def vx_T (XC : String → State → State → Prop) (st : State) (q : Addr) (t : State) (mc ms : Nat) (free : Addr → Prop) : Prop :=
  ∃ (E : String) (ce : Cell) (L : List Loc), XC E st t ∧ t.heap[q]? = some ce ∧ ce.vm = .none ∧ st.vm.findClass E = some ce.cls ∧ st.WarmedH t.vm ∧ st.sameButNew ({ t with vm := st.vm } : State) L mc ms ∧ ∀ z ∈ L, free z.base
def vx_Q (Qc : Array Value → State → Outcome → State → Prop) (XC : String → State → State → Prop) (mc ms : Nat) (free : Addr → Prop) : Array Value → State → Outcome → State → Prop := fun a st o t =>
  (Qc a st o t ∧ ∃ L, FrameEnd st o t L mc ms ∧ ∀ q ∈ L, free q.base) ∨ ∃ q, o = .threw q ∧ vx_T XC st q t mc ms free
/-- a callee that returns or throws -/
def vx_Met (l : Launch) (y : MethodName) (ws : List Cond) (rm : Room) (Pc : Array Value → State → Prop) (Qc : Array Value → State → Outcome → State → Prop) (XC : String → State → State → Prop) (mc ms : Nat) (free : Addr → Prop) : Prop :=
  MetFree l y (headSpec ws rm) Pc (fun _ _ _ _ _ => True) (vx_Q Qc XC mc ms free)
def vx_Post (XC : String → State → State → Prop) (mc ms : Nat) (free : Addr → Prop) : Pt → Array Value → Addr → Pt → Prop := fun A a q B =>
  ∃ (g : JFrame) (mk : MethodId) (t : State) (L : List Loc) (E : String) (ce : Cell), B.U.heap = t.heap ∧ B.U.vm = t.vm ∧ XC E (A.U.calling g mk a) t ∧ t.heap[q]? = some ce ∧ ce.vm = .none ∧ A.U.vm.findClass E = some ce.cls ∧ B.locs = A.locs ++ L ∧ (∀ z ∈ L, free z.base) ∧ B.cells = A.cells + mc ∧ B.slots = A.slots + ms
def vx_Back (l : Launch) (R : Room) (p : Program) (e : Env) (below : List Frame) (s : State) (sargs : Array Value) (y : MethodName) (len W9 : Nat)
    (Pre : Pt → Array Value → Prop) (Post : Pt → Array Value → Option Value → Pt → Prop) (PostX : Pt → Array Value → Addr → Pt → Prop) : Prop :=
  ∀ (m : MethodId) (meth : Method) (c : Code) (A : Pt) (g : JFrame) (ig : Instr) (mk : MethodId) (a : Array Value),
    Stand p l e R s m sargs below meth c A.U A.locs A.cells A.slots → g.method = m → g.locals.size = c.maxLocals → decode c.code g.pc = .ok (ig, len) →
    2 * g.monitorRoom + (g.stack.map fun v => v.category).sum ≤ W9 → A.U.methodNamed? y = some mk → Pre A a →
    (∃ (v : Option Value) (B : Pt), Stand p l e R s m sargs below meth c B.U B.locs B.cells B.slots ∧ Post A a v B ∧
      Steps p.tables e below (doInvoke e (A.U.setTop g) [] mk a).1 (B.U.setTop { g with pc := g.pc + len, stack := v.toList ++ g.stack })) ∨
    (∃ (q : Addr) (B : Pt), Stand p l e R s m sargs below meth c B.U B.locs B.cells B.slots ∧ PostX A a q B ∧
      Steps p.tables e below (doInvoke e (A.U.setTop g) [] mk a).1 ((B.U.setTop g).pushFrame (.throwing q)))
section Payer
variable {l : Launch} {R : Room} {p : Program} {e : Env} {below : List Frame} {s : State} {sargs : Array Value} {y : MethodName} {len W9 : Nat}
theorem vx_back {ws : List Cond} {rm : Room} {Pc : Array Value → State → Prop} {Qc : Array Value → State → Outcome → State → Prop} {XC : String → State → State → Prop} {mc ms : Nat} {free : Addr → Prop} {bytes : ByteArray} {maxL : Nat} {ret : Option FieldType}
    (hM : vx_Met l y ws rm Pc Qc XC mc ms free) (hblind : FrameBlind Pc) (hrc : rm.cells = mc) (hrs : rm.slots = ms)
    (hframes : rm.frames + 1 ≤ R.frames) (hlocals : W9 + (maxL + 11) + rm.locals ≤ R.locals)
    (hws : ∀ w ∈ ws, ∀ a' U, s.WarmedH U.vm → w.before a' U = true) (hcode : Cond.code y bytes maxL ret ∈ ws) (hinit : ∀ a' U, s.WarmedH U.vm → (Cond.initialized y.cls).before a' U = true) :
    vx_Back l R p e below s sargs y len W9 (PreOf R mc ms Pc) (PostOf Qc mc ms free) (vx_Post XC mc ms free) := by
  intro m meth c A g ig mk a X hg hsize hdg hW hn hp
  have h1 : (headSpec ws rm).pre.before a A.U = true := atoms_intro fun w hw => hws w hw _ _ X.warmed
  have h2 : (Cond.code y bytes maxL ret).before a A.U = true := hws _ hcode _ _ X.warmed
  have h3 : (Cond.initialized y.cls).before a A.U = true := hinit _ _ X.warmed
  have h4 : A.cells + (headSpec ws rm).room.cells ≤ R.cells := by rw [show (headSpec ws rm).room.cells = mc from hrc]; exact hp.1
  have h5 : A.slots + (headSpec ws rm).room.slots ≤ R.slots := by rw [show (headSpec ws rm).room.slots = ms from hrs]; exact hp.2.1
  have hPc : Pc a (A.U.calling g mk a) := hblind _ _ _ _ hp.2.2
  obtain ⟨U, Ls, c0, s0⟩ := A
  dsimp only [Pt.U, Pt.locs, Pt.cells, Pt.slots] at h1 h2 h3 h4 h5 X hn hPc ⊢
  obtain ⟨methY, cY, hmY, hcY, -, hlY, -, -, -, -⟩ := Cond.code_spec hn h2
  obtain ⟨kY, hkY, -⟩ := className_of_methodNamed hn
  have hinitY : kY.init = .initialized := Cond.initialized_spec (findClass_of_methodNamed hn) hkY h3
  have h : At U g.method c below := by rw [hg]; exact X.here
  have hlocals9 : W9 + (maxL + 11) + (headSpec ws rm).room.locals ≤ R.locals := hlocals
  have happ : (headSpec ws rm).appliesLoose y e.platform (U.calling g mk a) = true :=
    Spec.appliesLoose_calling (g := g) h hdg hn hkY hinitY
      (X.room_calling (g := g) (R' := (headSpec ws rm).room) hsize hmY hcY hframes (by rw [hlY]; omega) h4 h5) h1
  obtain ⟨mid, hmid⟩ := h.above
  have hfr : (U.setTop g).frames = (.java g :: mid) ++ below := by rw [State.frames_setTop' g h.top, hmid]; rfl
  obtain ⟨o, s₂, hsteps, -, hend, hq⟩ := Steps.callFree hM p X.admits X.cas X.clock (acts := []) hfr happ hPc trivial
  have hq' : vx_Q Qc XC mc ms free a (U.calling g mk a) o s₂ := hq
  rw [State.frames_setTop' g h.top] at hend
  obtain ⟨g₀, hg0⟩ := Option.isSome_iff_exists.mp h.top
  obtain ⟨r, hr⟩ := State.topJava?_eq_some.mp hg0
  have hr' : (({ U with heap := s₂.heap, slotsUsed := s₂.slotsUsed } : State).setVm s₂.vm).frames = .java g₀ :: r := hr
  rcases hq' with ⟨hqc, L, hfe, hL⟩ | ⟨q, rfl, E, ce, L, hx, hce, hcv, hcl, hW₂, hsm, hL⟩
  · obtain ⟨⟨v, rfl⟩, hW₂, e2, q2, q3, q4, q5, q6⟩ := id hfe
    have e3 : s₂ = ({ (U.calling g mk a).setFrames s₂.frames with heap := s₂.heap, slotsUsed := s₂.slotsUsed } : State).setVm s₂.vm := by
      have : s₂ = ({ s₂ with vm := (U.calling g mk a).vm } : State).setVm s₂.vm := rfl
      rw [e2] at this
      exact this
    obtain ⟨c₂, i₂, len₂, hc₂, hd₂, hf₂⟩ := hend
    have hW' : U.WarmedH s₂.vm := hW₂
    have hcc : c₂ = c := by
      have h1 : s₂.code? g.method = U.code? g.method := by
        rw [State.code?_eq, State.code?_eq, hW'.alike.method?]
      exact Option.some.inj (hc₂.symm.trans (h1.trans h.code))
    subst hcc
    have hlen : len₂ = len := by rw [hdg] at hd₂; cases hd₂; rfl
    subst hlen
    have hs₂ : s₂ = (({ U with heap := s₂.heap, slotsUsed := s₂.slotsUsed } : State).setVm s₂.vm).setTop { g with pc := g.pc + len₂, stack := v.toList ++ g.stack } := by
      refine e3.trans ?_
      rw [hf₂, State.calling_eq h.top, State.setFrames_setFrames, State.setTop_of_frames _ hr', hr]
      rfl
    have hsame : U.sameButNew ({ U with heap := s₂.heap, slotsUsed := s₂.slotsUsed } : State) L mc ms := by
      refine ⟨?_, q2, q3, q4, q5, q6⟩
      obtain ⟨t, ht, -⟩ := State.frames_cons hr
      show ({ U with heap := s₂.heap, slotsUsed := s₂.slotsUsed } : State) = { U.setFrames U.frames with heap := s₂.heap, slotsUsed := s₂.slotsUsed }
      rw [State.setFrames_self ht]
    subst hg
    refine Or.inl ⟨v, ⟨(({ U with heap := s₂.heap, slotsUsed := s₂.slotsUsed } : State).setVm s₂.vm), Ls ++ L, c0 + mc, s0 + ms⟩,
      ⟨X.admits, X.cas, X.clock, X.frames, X.room, X.hears, X.method, X.code, (X.here.setHeapUsed s₂.heap s₂.slotsUsed).setVm hW'.alike, X.tail, State.WarmedH.trans X.warmed hW', X.limits, X.bytes, X.same.trans (hsame.setVm s.vm)⟩,
      ⟨g, mk, s₂, L, rfl, rfl, hqc, rfl, hL, rfl, rfl⟩, ?_⟩
    show Steps p.tables e below _ ((({ U with heap := s₂.heap, slotsUsed := s₂.slotsUsed } : State).setVm s₂.vm).setTop { g with pc := g.pc + len₂, stack := v.toList ++ g.stack })
    rw [← hs₂]
    exact hsteps
  · obtain ⟨e2, q2, q3, q4, q5, q6⟩ := id hsm
    have e3 : s₂ = ({ (U.calling g mk a).setFrames s₂.frames with heap := s₂.heap, slotsUsed := s₂.slotsUsed } : State).setVm s₂.vm := by
      have : s₂ = ({ s₂ with vm := (U.calling g mk a).vm } : State).setVm s₂.vm := rfl
      rw [e2] at this
      exact this
    have hf₂ : s₂.frames = .throwing q :: .java g :: U.frames.tail := hend
    have hW' : U.WarmedH s₂.vm := hW₂
    have hs₂ : s₂ = ((({ U with heap := s₂.heap, slotsUsed := s₂.slotsUsed } : State).setVm s₂.vm).setTop g).pushFrame (.throwing q) := by
      refine e3.trans ?_
      rw [hf₂, State.calling_eq h.top, State.setFrames_setFrames, State.pushFrame, State.frames_setTop _ hr', State.setTop_of_frames _ hr', State.setFrames_setFrames, hr]
      rfl
    have hsame : U.sameButNew ({ U with heap := s₂.heap, slotsUsed := s₂.slotsUsed } : State) L mc ms := by
      refine ⟨?_, q2, q3, q4, q5, q6⟩
      obtain ⟨t, ht, -⟩ := State.frames_cons hr
      show ({ U with heap := s₂.heap, slotsUsed := s₂.slotsUsed } : State) = { U.setFrames U.frames with heap := s₂.heap, slotsUsed := s₂.slotsUsed }
      rw [State.setFrames_self ht]
    subst hg
    refine Or.inr ⟨q, ⟨(({ U with heap := s₂.heap, slotsUsed := s₂.slotsUsed } : State).setVm s₂.vm), Ls ++ L, c0 + mc, s0 + ms⟩,
      ⟨X.admits, X.cas, X.clock, X.frames, X.room, X.hears, X.method, X.code, (X.here.setHeapUsed s₂.heap s₂.slotsUsed).setVm hW'.alike, X.tail, State.WarmedH.trans X.warmed hW', X.limits, X.bytes, X.same.trans (hsame.setVm s.vm)⟩,
      ⟨g, mk, s₂, L, E, ce, rfl, rfl, hx, hce, hcv, hcl, rfl, hL, rfl, rfl⟩, ?_⟩
    show Steps p.tables e below _ (((({ U with heap := s₂.heap, slotsUsed := s₂.slotsUsed } : State).setVm s₂.vm).setTop g).pushFrame (.throwing q))
    rw [← hs₂]
    exact hsteps
end Payer
section Calls
variable {p : Program} {l : Launch} {e : Env} {R : Room} {s : State} {m : MethodId} {args : Array Value} {below : List Frame} {meth : Method} {c : Code} {T : State} {locs : List Loc} {cells slots : Nat}
theorem vx_callV (X : Stand p l e R s m args below meth c T locs cells slots) (hexec : p.tables.exec = Jvm.exec) {own C : String} {index : Nat} {y : MethodName} {bytes : ByteArray} {maxL : Nat} {ret : Option FieldType}
    (hown : s.vm.findClass own = some m.cls) (hlink : (Cond.methodLink own index y).before args s = true) (hinst : (Cond.instanceMethod y).before args s = true) (hsel : (Cond.selects C y y).before args s = true)
    (hcode : (Cond.code y bytes maxL ret).before args s = true) (hy : y.cls ≠ "java/lang/invoke/MethodHandle" ∧ y.cls ≠ "java/lang/invoke/VarHandle")
    {W9 : Nat} {Pre : Pt → Array Value → Prop} {Post : Pt → Array Value → Option Value → Pt → Prop} {PostX : Pt → Array Value → Addr → Pt → Prop} (hK : vx_Back l R p e below s args y 3 W9 Pre Post PostX)
    {b : Addr} {cellB : Cell} (hcell : T.heap[b]? = some cellB) (hobj : cellB.vm.isStatics = false) (hcls : s.vm.findClass C = some cellB.cls)
    {g : JFrame} (hg : g.method = m) (hsize : g.locals.size = c.maxLocals) {argsL rest : List Value} (hlen : ∀ sig, parseMethodDescriptor y.desc = some sig → argsL.length = sig.parameters.length)
    (hstack : g.stack = argsL.reverse ++ .ref b :: rest) (hW : 2 * g.monitorRoom + (rest.map fun v => v.category).sum ≤ W9) (hdg : decode c.code g.pc = .ok (.invokevirtual index, 3))
    (hpre : ∀ vm₁, s.WarmedH vm₁ → Pre ⟨T.setVm vm₁, locs, cells, slots⟩ (Value.ref b :: argsL).toArray) :
    (∃ (v : Option Value) (vm₁ : Vm) (B : Pt), s.WarmedH vm₁ ∧ Stand p l e R s m args below meth c B.U B.locs B.cells B.slots ∧ Post ⟨T.setVm vm₁, locs, cells, slots⟩ (Value.ref b :: argsL).toArray v B ∧
      ∀ target, Steps p.tables e below (B.U.setTop { g with pc := g.pc + 3, stack := v.toList ++ rest }) target → Steps p.tables e below (T.setTop g) target) ∨
    (∃ (q : Addr) (vm₁ : Vm) (B : Pt), s.WarmedH vm₁ ∧ Stand p l e R s m args below meth c B.U B.locs B.cells B.slots ∧ PostX ⟨T.setVm vm₁, locs, cells, slots⟩ (Value.ref b :: argsL).toArray q B ∧
      Steps p.tables e below (T.setTop g) ((B.U.setTop { g with stack := rest }).pushFrame (.throwing q))) := by
  obtain ⟨mk, methM, hnamed, hmethM, hstM, habM⟩ := Cond.instanceMethod_spec hinst
  obtain ⟨methM', cM, hmethM', -, -, -, -, -, -, hsigM⟩ := Cond.code_spec hnamed hcode
  cases hmethM.symm.trans hmethM'
  obtain ⟨c2, r2, m2, q1, q2, q3, q4, kP, hkP, hkPi⟩ := Cond.selects_spec hsel
  cases hcls.symm.trans q1
  cases (State.methodFound?_of_named hnamed hy).symm.trans q2
  cases hnamed.symm.trans q3
  have hselP : selectMethod e.platform s.vm cellB.cls mk = .method mk := by rw [Launch.admits_selectMethod X.admits]; exact q4
  obtain ⟨vm₁, X₁, hstep₁⟩ := X.invokevirtual hexec hown hlink hnamed hmethM hstM hkP hkPi hy (a := b) (cell := cellB) hcell
    (fun z h => by rw [h] at hobj; cases hobj) hselP hmethM habM hkP hkPi (g := g) hg (argsL := argsL) (rest := rest) (hlen _ hsigM) hstack hdg
  rcases hK m meth c ⟨T.setVm vm₁, locs, cells, slots⟩ { g with stack := rest } (.invokevirtual index) mk (Value.ref b :: argsL).toArray X₁ hg hsize hdg hW (X₁.named hnamed) (hpre vm₁ X₁.warmed) with ⟨v, B, X', hpost, hsteps⟩ | ⟨q, B, X', hpost, hsteps⟩
  · exact Or.inl ⟨v, vm₁, B, X₁.warmed, X', hpost, fun target h => hstep₁ _ fun acts => by rw [doInvoke_state]; exact hsteps.trans h⟩
  · exact Or.inr ⟨q, vm₁, B, X₁.warmed, X', hpost, hstep₁ _ fun acts => by rw [doInvoke_state]; exact hsteps⟩
theorem vx_callS (X : Stand p l e R s m args below meth c T locs cells slots) (hexec : p.tables.exec = Jvm.exec) {own : String} {index : Nat} {y : MethodName} {bytes : ByteArray} {maxL : Nat} {ret : Option FieldType}
    (hown : s.vm.findClass own = some m.cls) (hlink : (Cond.methodLink own index y).before args s = true) (hstat : (Cond.static y).before args s = true) (hinit : (Cond.initialized y.cls).before args s = true)
    (hcode : (Cond.code y bytes maxL ret).before args s = true) (hy : y.cls ≠ "java/lang/invoke/MethodHandle" ∧ y.cls ≠ "java/lang/invoke/VarHandle")
    {W9 : Nat} {Pre : Pt → Array Value → Prop} {Post : Pt → Array Value → Option Value → Pt → Prop} {PostX : Pt → Array Value → Addr → Pt → Prop} (hK : vx_Back l R p e below s args y 3 W9 Pre Post PostX)
    {g : JFrame} (hg : g.method = m) (hsize : g.locals.size = c.maxLocals) {argsL rest : List Value} (hlen : ∀ sig, parseMethodDescriptor y.desc = some sig → argsL.length = sig.parameters.length)
    (hstack : g.stack = argsL.reverse ++ rest) (hW : 2 * g.monitorRoom + (rest.map fun v => v.category).sum ≤ W9) (hdg : decode c.code g.pc = .ok (.invokestatic index, 3))
    (hpre : ∀ vm₁, s.WarmedH vm₁ → Pre ⟨T.setVm vm₁, locs, cells, slots⟩ argsL.toArray) :
    (∃ (v : Option Value) (vm₁ : Vm) (B : Pt), s.WarmedH vm₁ ∧ Stand p l e R s m args below meth c B.U B.locs B.cells B.slots ∧ Post ⟨T.setVm vm₁, locs, cells, slots⟩ argsL.toArray v B ∧
      ∀ target, Steps p.tables e below (B.U.setTop { g with pc := g.pc + 3, stack := v.toList ++ rest }) target → Steps p.tables e below (T.setTop g) target) ∨
    (∃ (q : Addr) (vm₁ : Vm) (B : Pt), s.WarmedH vm₁ ∧ Stand p l e R s m args below meth c B.U B.locs B.cells B.slots ∧ PostX ⟨T.setVm vm₁, locs, cells, slots⟩ argsL.toArray q B ∧
      Steps p.tables e below (T.setTop g) ((B.U.setTop { g with stack := rest }).pushFrame (.throwing q))) := by
  obtain ⟨mk, hnamed⟩ := Cond.code_named hcode
  obtain ⟨methM, cM, hmethM, -, -, -, -, -, -, hsigM⟩ := Cond.code_spec hnamed hcode
  have hstatic : methM.isStatic = true := Cond.static_spec hnamed hmethM hstat
  obtain ⟨kP, hkP, -⟩ := className_of_methodNamed hnamed
  have hinitP : kP.init = .initialized := Cond.initialized_spec (findClass_of_methodNamed hnamed) hkP hinit
  obtain ⟨vm₁, X₁, hstep₁⟩ := X.invokestatic hexec hown hlink hnamed hmethM hstatic hkP hinitP hy (g := g) hg (argsL := argsL) (rest := rest) (hlen _ hsigM) hstack hdg
  rcases hK m meth c ⟨T.setVm vm₁, locs, cells, slots⟩ { g with stack := rest } (.invokestatic index) mk argsL.toArray X₁ hg hsize hdg hW (X₁.named hnamed) (hpre vm₁ X₁.warmed) with ⟨v, B, X', hpost, hsteps⟩ | ⟨q, B, X', hpost, hsteps⟩
  · exact Or.inl ⟨v, vm₁, B, X₁.warmed, X', hpost, fun target h => hstep₁ _ fun acts => by rw [doInvoke_state]; exact hsteps.trans h⟩
  · exact Or.inr ⟨q, vm₁, B, X₁.warmed, X', hpost, hstep₁ _ fun acts => by rw [doInvoke_state]; exact hsteps⟩
end Calls
theorem vx_cls {s : State} {T : State} {vm₁ : Vm} {E : String} {k : ClassId} (hW : s.WarmedH vm₁) (h : (T.setVm vm₁).vm.findClass E = some k) : s.vm.findClass E = some k := by
  have h1 : vm₁.findClass E = some k := h
  rw [hW.alike.findClass] at h1
  exact h1
/-- the method's frame g, with q thrown over it -/
def vx_W (p : Program) (l : Launch) (e : Env) (R : Room) (s : State) (m : MethodId) (args : Array Value) (below : List Frame) (meth : Method) (c : Code) (H : Heap) (locs : List Loc) (cells slots : Nat) (Q : State → Prop) (g : JFrame) (q : Addr) : Prop :=
  ∀ T : State, T.heap = H → Stand p l e R s m args below meth c T locs cells slots → ∃ t, Steps p.tables e below ((T.setTop g).pushFrame (.throwing q)) t ∧ Q t
def vx_Run (p : Program) (l : Launch) (e : Env) (R : Room) (s : State) (m : MethodId) (args : Array Value) (below : List Frame) (meth : Method) (c : Code) (H : Heap) (locs : List Loc) (cells slots mc ms : Nat) (g : JFrame) (rest : List Value) (Qa : State → Outcome → State → Prop) (XC : String → State → State → Prop) (free : Addr → Prop) : Prop :=
  ∀ T : State, T.heap = H → Stand p l e R s m args below meth c T locs cells slots →
    (∃ (v : Option Value) (st₀ t T' : State) (L : List Loc), st₀.heap = H ∧ Stand p l e R s m args below meth c T' (locs ++ L) (cells + mc) (slots + ms) ∧ (∀ q ∈ L, free q.base) ∧ T'.heap = t.heap ∧ T'.vm = t.vm ∧ Qa st₀ (.returned v) t ∧
      Goes p e below T g T' { g with pc := g.pc + 3, stack := v.toList ++ rest }) ∨
    (∃ (q : Addr) (st₀ t T' : State) (L : List Loc) (E : String) (ce : Cell), st₀.heap = H ∧ Stand p l e R s m args below meth c T' (locs ++ L) (cells + mc) (slots + ms) ∧ (∀ z ∈ L, free z.base) ∧ T'.heap = t.heap ∧ T'.vm = t.vm ∧ XC E st₀ t ∧ t.heap[q]? = some ce ∧ ce.vm = .none ∧ s.vm.findClass E = some ce.cls ∧
      Steps p.tables e below (T.setTop g) ((T'.setTop { g with stack := rest }).pushFrame (.throwing q)))
def vx_X {S : Type} (px : S → Prop) (B : String → S → State → Prop) (A : Nat → Prop) : String → State → State → Prop := fun E st t => ∃ u : S, px u ∧ B E u t ∧ va_F A st t
section Runs
variable {p : Program} {l : Launch} {e : Env} {R : Room} {s : State} {m : MethodId} {args : Array Value} {below : List Frame} {meth : Method} {c : Code} {H : Heap} {locs : List Loc} {cells slots : Nat}
variable {y : MethodName} {bytes cc : ByteArray} {maxL nL mc ms n index : Nat} {ret : Option FieldType} {ws : List Cond} {rm : Room} {Pc : Array Value → State → Prop} {Qc : Array Value → State → Outcome → State → Prop} {XC : String → State → State → Prop} {free : Addr → Prop} {Ts : List Cond} {own C : String} {b : Addr} {As rest : List Value} {g : JFrame}
theorem vx_callBack (cb : CallB R s args own index y bytes maxL ret ws rm mc ms n) (hM : vx_Met l y ws rm Pc Qc XC mc ms free) (hbl : FrameBlind Pc) : vx_Back l R p e below s args y 3 8 (PreOf R mc ms Pc) (PostOf Qc mc ms free) (vx_Post XC mc ms free) := by
  obtain ⟨hrc, hrs, hfr, hlo, hws, hcw, -, hini, -⟩ := cb
  exact vx_back (bytes := bytes) (maxL := maxL) (ret := ret) hM hbl hrc hrs hfr hlo hws hcw (fun a' U hW => word_at hW (Or.inl (by first | rfl | simp [Cond.onTables, Cond.keeps, Cond.steady])) hini)
theorem vx_runV (S : CallFix p m c cc nL s args Ts own) (hM : vx_Met l y ws rm Pc Qc XC mc ms free) (cw : CallW R s args own C index y bytes maxL ret ws rm mc ms n) (hp : PreV s H C b Pc As)
    (hg : g.method = m) (hn : As.length = n) (hsize : g.locals.size = nL) (hstack : g.stack = As.reverse ++ .ref b :: rest) (hW : 2 * g.monitorRoom + (rest.map fun v => v.category).sum ≤ 8) (hdg : decode cc g.pc = .ok (.invokevirtual index, 3)) (hf : cells + mc ≤ R.cells ∧ slots + ms ≤ R.slots) :
    vx_Run p l e R s m args below meth c H locs cells slots mc ms g rest (Qc (Value.ref b :: As).toArray) XC free := by
  have hK : vx_Back l R p e below s args y 3 8 (PreOf R mc ms Pc) (PostOf Qc mc ms free) (vx_Post XC mc ms free) := vx_callBack cw.1 hM hp.1
  obtain ⟨⟨-, -, -, -, -, -, hcode, -, hy, hlen, hl⟩, hin, hse⟩ := cw
  obtain ⟨hx, hb, hml, ho, -⟩ := S
  obtain ⟨-, ⟨cellB, hcB, hoB, hclB⟩, hPc⟩ := hp
  intro T hT X
  rcases vx_callV X hx (C := C) (bytes := bytes) (maxL := maxL) (ret := ret) ho hl hin hse hcode hy hK (by rw [hT]; exact hcB) hoB hclB hg (hsize.trans hml.symm) (argsL := As) (rest := rest) (fun sig h => hn.trans (hlen sig h)) hstack hW (by rw [hb]; exact hdg)
    (fun vm₁ hW₁ => ⟨hf.1, hf.2, hPc (T.setVm vm₁) hT hW₁⟩) with ⟨v, vm₁, ⟨U', l2, c2, s2⟩, hW₁, X', ⟨g', mk, t, L, e1, e2, hq, h1, hL, h2, h3⟩, st⟩ | ⟨q, vm₁, ⟨U', l2, c2, s2⟩, hW₁, X', ⟨g', mk, t, L, E, ce, e1, e2, hq, hce, hcv, hcl, h1, hL, h2, h3⟩, st⟩
  · dsimp only [Pt.U, Pt.locs, Pt.cells, Pt.slots] at X' e1 e2 h1 h2 h3 st
    subst h1; subst h2; subst h3
    exact Or.inl ⟨v, (T.setVm vm₁).calling g' mk (Value.ref b :: As).toArray, t, U', L, hT, X', hL, e1, e2, hq, st⟩
  · dsimp only [Pt.U, Pt.locs, Pt.cells, Pt.slots] at X' e1 e2 h1 h2 h3 st hcl
    subst h1; subst h2; subst h3
    exact Or.inr ⟨q, (T.setVm vm₁).calling g' mk (Value.ref b :: As).toArray, t, U', L, E, ce, hT, X', hL, e1, e2, hq, hce, hcv, vx_cls hW₁ hcl, st⟩
theorem vx_runS (S : CallFix p m c cc nL s args Ts own) (hM : vx_Met l y ws rm Pc Qc XC mc ms free) (cw : CallB R s args own index y bytes maxL ret ws rm mc ms n ∧ (Cond.static y).before args s = true) (hp : PreS s H Pc As)
    (hg : g.method = m) (hn : As.length = n) (hsize : g.locals.size = nL) (hstack : g.stack = As.reverse ++ rest) (hW : 2 * g.monitorRoom + (rest.map fun v => v.category).sum ≤ 8) (hdg : decode cc g.pc = .ok (.invokestatic index, 3)) (hf : cells + mc ≤ R.cells ∧ slots + ms ≤ R.slots) :
    vx_Run p l e R s m args below meth c H locs cells slots mc ms g rest (Qc As.toArray) XC free := by
  have hK : vx_Back l R p e below s args y 3 8 (PreOf R mc ms Pc) (PostOf Qc mc ms free) (vx_Post XC mc ms free) := vx_callBack cw.1 hM hp.1
  obtain ⟨⟨-, -, -, -, -, -, hcode, hini, hy, hlen, hl⟩, hstt⟩ := cw
  obtain ⟨hx, hb, hml, ho, -⟩ := S
  intro T hT X
  rcases vx_callS X hx (bytes := bytes) (maxL := maxL) (ret := ret) ho hl hstt hini hcode hy hK hg (hsize.trans hml.symm) (argsL := As) (rest := rest) (fun sig h => hn.trans (hlen sig h)) hstack hW (by rw [hb]; exact hdg)
    (fun vm₁ hW₁ => ⟨hf.1, hf.2, hp.2 (T.setVm vm₁) hT hW₁⟩) with ⟨v, vm₁, ⟨U', l2, c2, s2⟩, hW₁, X', ⟨g', mk, t, L, e1, e2, hq, h1, hL, h2, h3⟩, st⟩ | ⟨q, vm₁, ⟨U', l2, c2, s2⟩, hW₁, X', ⟨g', mk, t, L, E, ce, e1, e2, hq, hce, hcv, hcl, h1, hL, h2, h3⟩, st⟩
  · dsimp only [Pt.U, Pt.locs, Pt.cells, Pt.slots] at X' e1 e2 h1 h2 h3 st
    subst h1; subst h2; subst h3
    exact Or.inl ⟨v, (T.setVm vm₁).calling g' mk As.toArray, t, U', L, hT, X', hL, e1, e2, hq, st⟩
  · dsimp only [Pt.U, Pt.locs, Pt.cells, Pt.slots] at X' e1 e2 h1 h2 h3 st hcl
    subst h1; subst h2; subst h3
    exact Or.inr ⟨q, (T.setVm vm₁).calling g' mk As.toArray, t, U', L, E, ce, hT, X', hL, e1, e2, hq, hce, hcv, vx_cls hW₁ hcl, st⟩
end Runs
section Rows
variable {p : Program} {l : Launch} {e : Env} {R : Room} {s : State} {m : MethodId} {args : Array Value} {below : List Frame} {meth : Method} {c : Code} {H : Heap} {locs : List Loc} {cells slots : Nat} {Q : State → Prop}
variable {mc ms : Nat} {free : Addr → Prop} {A0 A1 : Nat → Prop} {H0 : Heap} {a : Array Value} {pc : Nat} {ls : Array Slot} {st0 rest : List Value}
theorem vx_keep {st₀ t T' : State} {L : List Loc} (h0 : st₀.heap = H) (e1 : T'.heap = t.heap) (hS : va_S A0 H0 H locs) (hA : ∀ q, q < H.size → A1 q → A0 q) (hf : ∀ q, free q → A0 q) (hL : ∀ q ∈ L, free q.base) (hF : va_F A1 st₀ t) :
    H.size ≤ T'.heap.size ∧ (∀ q : Nat, q < H.size → ¬ A1 q → T'.heap[q]? = H[q]?) ∧ va_S A0 H0 T'.heap (locs ++ L) := by
  obtain ⟨hz, hk⟩ := hF
  rw [h0] at hz hk
  exact ⟨by rw [e1]; exact hz, fun q h1 h2 => by rw [e1]; exact hk q h1 h2,
    ⟨Nat.le_trans hS.1 (by rw [e1]; exact hz), fun q h1 h2 => by rw [e1, hk q (Nat.lt_of_lt_of_le h1 hS.1) (fun z => h2 (hA q (Nat.lt_of_lt_of_le h1 hS.1) z))]; exact hS.2.1 q h1 h2, fun q hq => by
      rcases List.mem_append.mp hq with h | h
      · exact hS.2.2 q h
      · exact hf _ (hL q h)⟩⟩
theorem vx_calli {S SX : Type} {post : Int32 → S → Prop} {px : SX → Prop} {B : S → State → Prop} {BX : String → SX → State → Prop} {AX : Nat → Prop} (hr : vx_Run p l e R s m args below meth c H locs cells slots mc ms (F0 m pc ls st0) rest (va_Qi post B A1 a) (vx_X px BX AX) free) (hS : va_S A0 H0 H locs) (hA : ∀ q, q < H.size → A1 q → A0 q) (hf : ∀ q, free q → A0 q) (hAX : ∀ q, q < H.size → AX q → A0 q)
    (kx : ∀ (E : String) (ce : Cell) (q9 : Addr) (u : SX) (t : State) (H1 : Heap) (locs1 : List Loc), t.heap = H1 → s.vm.Alike t.vm → px u → BX E u t → H.size ≤ H1.size → (∀ q : Nat, q < H.size → ¬ AX q → H1[q]? = H[q]?) → va_S A0 H0 H1 locs1 → H1[q9]? = some ce → ce.vm = .none → s.vm.findClass E = some ce.cls → vx_W p l e R s m args below meth c H1 locs1 (cells + mc) (slots + ms) Q (F0 m pc ls rest) q9)
    (kk : ∀ (r : Int32) (u : S) (t : State) (H1 : Heap) (locs1 : List Loc), t.heap = H1 → s.vm.Alike t.vm → post r u → B u t → H.size ≤ H1.size → (∀ q : Nat, q < H.size → ¬ A1 q → H1[q]? = H[q]?) → va_S A0 H0 H1 locs1 → W p l e R s m args below meth c H1 locs1 (cells + mc) (slots + ms) Q (F0 m (pc + 3) ls (.int r :: rest))) : W p l e R s m args below meth c H locs cells slots Q (F0 m pc ls st0) := by
  intro T hT X
  rcases hr T hT X with ⟨v, st₀, t, T', L, h0, X', hL, e1, e2, ⟨⟨r, u, hv, hp, hb⟩, hF⟩, st⟩ | ⟨q, st₀, t, T', L, E, ce, h0, X', hL, e1, e2, ⟨u, hp, hb, hF⟩, hce, hcv, hcl, st⟩
  · cases hv
    obtain ⟨k1, k2, k3⟩ := vx_keep h0 e1 hS hA hf hL hF
    obtain ⟨t2, a1, b1⟩ := kk r u t T'.heap (locs ++ L) e1.symm (by rw [← e2]; exact X'.warmed.alike) hp hb k1 k2 k3 T' rfl X'
    exact ⟨t2, st t2 a1, b1⟩
  · obtain ⟨k1, k2, k3⟩ := vx_keep h0 e1 hS hAX hf hL hF
    obtain ⟨t2, a1, b1⟩ := kx E ce q u t T'.heap (locs ++ L) e1.symm (by rw [← e2]; exact X'.warmed.alike) hp hb k1 k2 k3 (by rw [e1]; exact hce) hcv hcl T' rfl X'
    exact ⟨t2, st.trans a1, b1⟩
theorem vx_calll {S SX : Type} {post : Int64 → S → Prop} {px : SX → Prop} {B : S → State → Prop} {BX : String → SX → State → Prop} {AX : Nat → Prop} (hr : vx_Run p l e R s m args below meth c H locs cells slots mc ms (F0 m pc ls st0) rest (va_Ql post B A1 a) (vx_X px BX AX) free) (hS : va_S A0 H0 H locs) (hA : ∀ q, q < H.size → A1 q → A0 q) (hf : ∀ q, free q → A0 q) (hAX : ∀ q, q < H.size → AX q → A0 q)
    (kx : ∀ (E : String) (ce : Cell) (q9 : Addr) (u : SX) (t : State) (H1 : Heap) (locs1 : List Loc), t.heap = H1 → s.vm.Alike t.vm → px u → BX E u t → H.size ≤ H1.size → (∀ q : Nat, q < H.size → ¬ AX q → H1[q]? = H[q]?) → va_S A0 H0 H1 locs1 → H1[q9]? = some ce → ce.vm = .none → s.vm.findClass E = some ce.cls → vx_W p l e R s m args below meth c H1 locs1 (cells + mc) (slots + ms) Q (F0 m pc ls rest) q9)
    (kk : ∀ (r : Int64) (u : S) (t : State) (H1 : Heap) (locs1 : List Loc), t.heap = H1 → s.vm.Alike t.vm → post r u → B u t → H.size ≤ H1.size → (∀ q : Nat, q < H.size → ¬ A1 q → H1[q]? = H[q]?) → va_S A0 H0 H1 locs1 → W p l e R s m args below meth c H1 locs1 (cells + mc) (slots + ms) Q (F0 m (pc + 3) ls (.long r :: rest))) : W p l e R s m args below meth c H locs cells slots Q (F0 m pc ls st0) := by
  intro T hT X
  rcases hr T hT X with ⟨v, st₀, t, T', L, h0, X', hL, e1, e2, ⟨⟨r, u, hv, hp, hb⟩, hF⟩, st⟩ | ⟨q, st₀, t, T', L, E, ce, h0, X', hL, e1, e2, ⟨u, hp, hb, hF⟩, hce, hcv, hcl, st⟩
  · cases hv
    obtain ⟨k1, k2, k3⟩ := vx_keep h0 e1 hS hA hf hL hF
    obtain ⟨t2, a1, b1⟩ := kk r u t T'.heap (locs ++ L) e1.symm (by rw [← e2]; exact X'.warmed.alike) hp hb k1 k2 k3 T' rfl X'
    exact ⟨t2, st t2 a1, b1⟩
  · obtain ⟨k1, k2, k3⟩ := vx_keep h0 e1 hS hAX hf hL hF
    obtain ⟨t2, a1, b1⟩ := kx E ce q u t T'.heap (locs ++ L) e1.symm (by rw [← e2]; exact X'.warmed.alike) hp hb k1 k2 k3 (by rw [e1]; exact hce) hcv hcl T' rfl X'
    exact ⟨t2, st.trans a1, b1⟩
theorem vx_callf {S SX : Type} {post : UInt32 → S → Prop} {px : SX → Prop} {B : S → State → Prop} {BX : String → SX → State → Prop} {AX : Nat → Prop} (hr : vx_Run p l e R s m args below meth c H locs cells slots mc ms (F0 m pc ls st0) rest (va_Qf post B A1 a) (vx_X px BX AX) free) (hS : va_S A0 H0 H locs) (hA : ∀ q, q < H.size → A1 q → A0 q) (hf : ∀ q, free q → A0 q) (hAX : ∀ q, q < H.size → AX q → A0 q)
    (kx : ∀ (E : String) (ce : Cell) (q9 : Addr) (u : SX) (t : State) (H1 : Heap) (locs1 : List Loc), t.heap = H1 → s.vm.Alike t.vm → px u → BX E u t → H.size ≤ H1.size → (∀ q : Nat, q < H.size → ¬ AX q → H1[q]? = H[q]?) → va_S A0 H0 H1 locs1 → H1[q9]? = some ce → ce.vm = .none → s.vm.findClass E = some ce.cls → vx_W p l e R s m args below meth c H1 locs1 (cells + mc) (slots + ms) Q (F0 m pc ls rest) q9)
    (kk : ∀ (r : UInt32) (u : S) (t : State) (H1 : Heap) (locs1 : List Loc), t.heap = H1 → s.vm.Alike t.vm → post r u → B u t → H.size ≤ H1.size → (∀ q : Nat, q < H.size → ¬ A1 q → H1[q]? = H[q]?) → va_S A0 H0 H1 locs1 → W p l e R s m args below meth c H1 locs1 (cells + mc) (slots + ms) Q (F0 m (pc + 3) ls (.float r :: rest))) : W p l e R s m args below meth c H locs cells slots Q (F0 m pc ls st0) := by
  intro T hT X
  rcases hr T hT X with ⟨v, st₀, t, T', L, h0, X', hL, e1, e2, ⟨⟨r, u, hv, hp, hb⟩, hF⟩, st⟩ | ⟨q, st₀, t, T', L, E, ce, h0, X', hL, e1, e2, ⟨u, hp, hb, hF⟩, hce, hcv, hcl, st⟩
  · cases hv
    obtain ⟨k1, k2, k3⟩ := vx_keep h0 e1 hS hA hf hL hF
    obtain ⟨t2, a1, b1⟩ := kk r u t T'.heap (locs ++ L) e1.symm (by rw [← e2]; exact X'.warmed.alike) hp hb k1 k2 k3 T' rfl X'
    exact ⟨t2, st t2 a1, b1⟩
  · obtain ⟨k1, k2, k3⟩ := vx_keep h0 e1 hS hAX hf hL hF
    obtain ⟨t2, a1, b1⟩ := kx E ce q u t T'.heap (locs ++ L) e1.symm (by rw [← e2]; exact X'.warmed.alike) hp hb k1 k2 k3 (by rw [e1]; exact hce) hcv hcl T' rfl X'
    exact ⟨t2, st.trans a1, b1⟩
theorem vx_calld {S SX : Type} {post : UInt64 → S → Prop} {px : SX → Prop} {B : S → State → Prop} {BX : String → SX → State → Prop} {AX : Nat → Prop} (hr : vx_Run p l e R s m args below meth c H locs cells slots mc ms (F0 m pc ls st0) rest (va_Qd post B A1 a) (vx_X px BX AX) free) (hS : va_S A0 H0 H locs) (hA : ∀ q, q < H.size → A1 q → A0 q) (hf : ∀ q, free q → A0 q) (hAX : ∀ q, q < H.size → AX q → A0 q)
    (kx : ∀ (E : String) (ce : Cell) (q9 : Addr) (u : SX) (t : State) (H1 : Heap) (locs1 : List Loc), t.heap = H1 → s.vm.Alike t.vm → px u → BX E u t → H.size ≤ H1.size → (∀ q : Nat, q < H.size → ¬ AX q → H1[q]? = H[q]?) → va_S A0 H0 H1 locs1 → H1[q9]? = some ce → ce.vm = .none → s.vm.findClass E = some ce.cls → vx_W p l e R s m args below meth c H1 locs1 (cells + mc) (slots + ms) Q (F0 m pc ls rest) q9)
    (kk : ∀ (r : UInt64) (u : S) (t : State) (H1 : Heap) (locs1 : List Loc), t.heap = H1 → s.vm.Alike t.vm → post r u → B u t → H.size ≤ H1.size → (∀ q : Nat, q < H.size → ¬ A1 q → H1[q]? = H[q]?) → va_S A0 H0 H1 locs1 → W p l e R s m args below meth c H1 locs1 (cells + mc) (slots + ms) Q (F0 m (pc + 3) ls (.double r :: rest))) : W p l e R s m args below meth c H locs cells slots Q (F0 m pc ls st0) := by
  intro T hT X
  rcases hr T hT X with ⟨v, st₀, t, T', L, h0, X', hL, e1, e2, ⟨⟨r, u, hv, hp, hb⟩, hF⟩, st⟩ | ⟨q, st₀, t, T', L, E, ce, h0, X', hL, e1, e2, ⟨u, hp, hb, hF⟩, hce, hcv, hcl, st⟩
  · cases hv
    obtain ⟨k1, k2, k3⟩ := vx_keep h0 e1 hS hA hf hL hF
    obtain ⟨t2, a1, b1⟩ := kk r u t T'.heap (locs ++ L) e1.symm (by rw [← e2]; exact X'.warmed.alike) hp hb k1 k2 k3 T' rfl X'
    exact ⟨t2, st t2 a1, b1⟩
  · obtain ⟨k1, k2, k3⟩ := vx_keep h0 e1 hS hAX hf hL hF
    obtain ⟨t2, a1, b1⟩ := kx E ce q u t T'.heap (locs ++ L) e1.symm (by rw [← e2]; exact X'.warmed.alike) hp hb k1 k2 k3 (by rw [e1]; exact hce) hcv hcl T' rfl X'
    exact ⟨t2, st.trans a1, b1⟩
theorem vx_callv {S SX : Type} {post : S → Prop} {px : SX → Prop} {B : S → State → Prop} {BX : String → SX → State → Prop} {AX : Nat → Prop} (hr : vx_Run p l e R s m args below meth c H locs cells slots mc ms (F0 m pc ls st0) rest (va_Qv post B A1 a) (vx_X px BX AX) free) (hS : va_S A0 H0 H locs) (hA : ∀ q, q < H.size → A1 q → A0 q) (hf : ∀ q, free q → A0 q) (hAX : ∀ q, q < H.size → AX q → A0 q)
    (kx : ∀ (E : String) (ce : Cell) (q9 : Addr) (u : SX) (t : State) (H1 : Heap) (locs1 : List Loc), t.heap = H1 → s.vm.Alike t.vm → px u → BX E u t → H.size ≤ H1.size → (∀ q : Nat, q < H.size → ¬ AX q → H1[q]? = H[q]?) → va_S A0 H0 H1 locs1 → H1[q9]? = some ce → ce.vm = .none → s.vm.findClass E = some ce.cls → vx_W p l e R s m args below meth c H1 locs1 (cells + mc) (slots + ms) Q (F0 m pc ls rest) q9)
    (kk : ∀ (u : S) (t : State) (H1 : Heap) (locs1 : List Loc), t.heap = H1 → s.vm.Alike t.vm → post u → B u t → H.size ≤ H1.size → (∀ q : Nat, q < H.size → ¬ A1 q → H1[q]? = H[q]?) → va_S A0 H0 H1 locs1 → W p l e R s m args below meth c H1 locs1 (cells + mc) (slots + ms) Q (F0 m (pc + 3) ls (rest))) : W p l e R s m args below meth c H locs cells slots Q (F0 m pc ls st0) := by
  intro T hT X
  rcases hr T hT X with ⟨v, st₀, t, T', L, h0, X', hL, e1, e2, ⟨⟨u, hv, hp, hb⟩, hF⟩, st⟩ | ⟨q, st₀, t, T', L, E, ce, h0, X', hL, e1, e2, ⟨u, hp, hb, hF⟩, hce, hcv, hcl, st⟩
  · cases hv
    obtain ⟨k1, k2, k3⟩ := vx_keep h0 e1 hS hA hf hL hF
    obtain ⟨t2, a1, b1⟩ := kk u t T'.heap (locs ++ L) e1.symm (by rw [← e2]; exact X'.warmed.alike) hp hb k1 k2 k3 T' rfl X'
    exact ⟨t2, st t2 a1, b1⟩
  · obtain ⟨k1, k2, k3⟩ := vx_keep h0 e1 hS hAX hf hL hF
    obtain ⟨t2, a1, b1⟩ := kx E ce q u t T'.heap (locs ++ L) e1.symm (by rw [← e2]; exact X'.warmed.alike) hp hb k1 k2 k3 (by rw [e1]; exact hce) hcv hcl T' rfl X'
    exact ⟨t2, st.trans a1, b1⟩
/-- caught by the row x of this method's table; the rows ahead don't take it -/
theorem vx_catch {own name : String} {E : String} {ce : Cell} {q : Addr} (hown : s.vm.findClass own = some m.cls) (pre : List ExceptionTableEntry) (x : ExceptionTableEntry) (suf : List ExceptionTableEntry) (hsplit : c.exceptionTable.toList = pre ++ x :: suf)
    (hpass : ∀ z ∈ pre, covers z pc = false ∨ (z.catchType ≠ 0 ∧ ∃ nm : String, (Cond.classLink own z.catchType nm).before args s = true ∧ va_Nc E nm s)) (hx : covers x pc = true) (h0 : x.catchType ≠ 0)
    (hlink : (Cond.classLink own x.catchType name).before args s = true) (hcast : (Cond.castable E name).before args s = true) (hcell : H[q]? = some ce) (hv : ce.vm = .none) (hcl : s.vm.findClass E = some ce.cls)
    (kk : W p l e R s m args below meth c H locs cells slots Q (F0 m x.handlerPc ls [.ref q])) : vx_W p l e R s m args below meth c H locs cells slots Q (F0 m pc ls rest) q := by
  intro T hT X
  have hpl : e.platform.magicAccessors = ({} : Platform).magicAccessors := by rw [X.admits.platform]
  obtain ⟨c3, c4, hc3, hc4, hasg⟩ := Cond.castable_spec hcast
  cases Option.some.inj (hc3.symm.trans hcl)
  obtain ⟨c5, hc5, hcl5⟩ := Cond.classLink_spec hown hlink e.platform hpl
  cases Option.some.inj (hc4.symm.trans hc5)
  obtain ⟨vm', X', st⟩ := X.thenCaughtThrough q (g := F0 m pc ls rest) rfl (Steps.refl _) (by rw [hT]; exact hcell) (by rw [hv]; rfl) (by obtain ⟨k9, h9, -⟩ := Vm.findClass_spec hcl; exact ⟨k9, h9⟩) pre x suf hsplit
    (fun z hz => by
      rcases hpass z hz with h | ⟨hz0, nm, hl1, hn1⟩
      · exact Or.inl h
      · obtain ⟨c6, hc6, hcl6⟩ := Cond.classLink_spec hown hl1 e.platform hpl
        obtain ⟨a8, b8, h1, h2, h3⟩ := hn1
        cases Option.some.inj (h1.symm.trans hcl)
        cases Option.some.inj (h2.symm.trans hc6)
        exact Or.inr ⟨hz0, _, hcl6, h3⟩) hx (Or.inr ⟨h0, c4, hcl5, hasg⟩)
  obtain ⟨t, a1, b1⟩ := kk (T.setVm vm') hT X'
  exact ⟨t, st.trans a1, b1⟩
end Rows
section Ends
variable {p : Program} {l : Launch} {e : Env} {R : Room} {s : State} {m : MethodId} {args : Array Value} {below : List Frame} {meth : Method} {c : Code} {H : Heap} {locs : List Loc} {cells slots : Nat} {Q : State → Prop}
variable {mc ms : Nat} {free : Addr → Prop} {A0 A1 : Nat → Prop} {H0 : Heap} {a : Array Value} {ls : Array Slot} {st0 rest : List Value}
variable {Qc : Array Value → State → Outcome → State → Prop} {XC : String → State → State → Prop}
/-- what a body that may throw owes at its end -/
def vx_MQ (below : List Frame) (Qc : Array Value → State → Outcome → State → Prop) (XC : String → State → State → Prop) (a : Array Value) (s : State) (mc ms : Nat) (free : Addr → Prop) : State → Prop := fun t =>
  ∃ o, t.status = .running ∧ Ended t below o ∧ vx_Q Qc XC mc ms free a s o t
theorem vx_ret {g : JFrame} {mc ms : Nat} (k : W p l e R s m args below meth c H locs cells slots (MQ below Qc args s mc ms free) g) : W p l e R s m args below meth c H locs cells slots (vx_MQ below Qc XC args s mc ms free) g := by
  intro T hT X
  obtain ⟨t, a1, o, b1, b2, b3, b4⟩ := k T hT X
  exact ⟨t, a1, o, b1, b2, Or.inl ⟨b3, b4⟩⟩
/-- not caught here: it goes on to the caller -/
theorem vx_widen {g : JFrame} {q : Addr} {k n : Nat} (h1 : cells ≤ k) (h2 : slots ≤ n) (kk : vx_W p l e R s m args below meth c H locs k n Q g q) : vx_W p l e R s m args below meth c H locs cells slots Q g q := fun T hT X => kk T hT (stand_widen X h1 h2)
theorem vx_out {pc : Nat} {E : String} {ce : Cell} {q : Addr} {mc ms : Nat} (hout : ∀ x ∈ c.exceptionTable.toList, covers x pc = false) (hlocks : meth.locks = false) (hcell : H[q]? = some ce) (hv : ce.vm = .none) (hcl : s.vm.findClass E = some ce.cls)
    (hx : ∀ t : State, t.heap = H → s.vm.Alike t.vm → XC E s t) (hf : ∀ z ∈ locs, free z.base) (hc : cells ≤ mc) (hs : slots ≤ ms) :
    vx_W p l e R s m args below meth c H locs cells slots (vx_MQ below Qc XC args s mc ms free) (F0 m pc ls rest) q := by
  intro T hT X
  obtain ⟨st1, hrun, hend, hW, hsm⟩ := X.leaveThrown q (g := F0 m pc ls rest) rfl rfl rfl hout hlocks
  have hcell9 : (T.setFrames (.throwing q :: below)).heap[q]? = some ce := by
    show T.heap[q]? = some ce
    rw [hT]; exact hcell
  exact ⟨_, st1, .threw q, hrun, hend, Or.inr ⟨q, rfl, E, ce, locs, hx _ hT hW.alike, hcell9, hv, hcl, hW, hsm.mono hc hs, hf⟩⟩
theorem vx_frame {U : State} {k n : Nat} (h : s.sameButNew ({ U with vm := s.vm } : State) locs k n) : s.heap.size ≤ U.heap.size ∧ ∀ q : Nat, q < s.heap.size → (∀ z ∈ locs, z.base ≠ q) → U.heap[q]? = s.heap[q]? := by
  obtain ⟨-, h2, -, -, -, h6⟩ := h
  refine ⟨h2, fun q hq hz => ?_⟩
  obtain ⟨c9, e1, e2, e3, e4⟩ := h6 q _ (Array.getElem?_eq_getElem hq)
  have hs : c9.slots = (s.heap[q]).slots := Array.ext_getElem? fun i => e4 i fun hm => hz _ hm rfl
  have h9 : c9 = s.heap[q] := by
    rw [hs] at e2
    exact e2
  have e5 : U.heap[q]? = some c9 := e1
  rw [e5, h9, Array.getElem?_eq_getElem hq]
/-- the words of a throw but the four that speak of the heap -/
def vx_no (w : Cond) : Bool := decide (w ≠ .isRef (.static Bundle.tN "UNASSIGNED_STACK" Bundle.steD)) && decide (w ≠ .isRef (.static Bundle.tN "SUPPRESSED_SENTINEL" Bundle.listD)) && decide (w ≠ .laysStatic Bundle.tN "UNASSIGNED_STACK" Bundle.steD) && decide (w ≠ .laysStatic Bundle.tN "SUPPRESSED_SENTINEL" Bundle.listD)
def vx_at0 (own : String) (ic : Nat) (X : String) (names : List String) : List Cond := (Bundle.ownAtoms0 own ic X names).filter vx_no
def vx_atS (own : String) (ic : Nat) (X : String) (names : List String) : List Cond := (Bundle.ownAtoms own ic X names).filter vx_no
/-- a word that the tables alone decide, or a good one -/
def vx_ot (w : Cond) : Bool := w.onTables || goodWord w
theorem vx_ot_at {args a' : Array Value} {s U : State} {w : Cond} (hW : s.WarmedH U.vm) (hvm : s.vm = U.vm) (hg : vx_ot w = true) (h : w.before args s = true) : w.before a' U = true := by
  simp only [vx_ot, Bool.or_eq_true] at hg
  rcases hg with hg | hg
  · exact va_tabs hg hvm h
  · exact word_at hW (good_of_word hg) h
/-- a list's words: the good ones out of the method's own list, the others by premises of their own -/
theorem vx_hat {args : Array Value} {s : State} {L B : List Cond} (h1 : ∀ w ∈ L.filter goodWord, w.before args s = true) (h2 : ∀ w ∈ L.filter (fun w => !goodWord w), w ∈ B) (h3 : ∀ w ∈ B, w.before args s = true) : ∀ w ∈ L, w.before args s = true := by
  intro w hw
  by_cases g : goodWord w = true
  · exact h1 w (List.mem_filter.mpr ⟨hw, g⟩)
  · refine h3 w (h2 w (List.mem_filter.mpr ⟨hw, ?_⟩))
    show (!goodWord w) = true
    cases hgw : goodWord w
    · rfl
    · exact absurd hgw g
theorem vx_c {args : Array Value} {s : State} {w : Cond} {B : List Cond} (h : w.before args s = true) (t : ∀ w ∈ B, w.before args s = true) : ∀ w' ∈ w :: B, w'.before args s = true := fun w' h' => (List.mem_cons.mp h').elim (fun e => by rw [e]; exact h) (t w')
theorem vx_n {args : Array Value} {s : State} : ∀ w ∈ ([] : List Cond), w.before args s = true := fun _ h => nomatch h
theorem vx_own {args : Array Value} {s : State} {L : List Cond} (h1 : ∀ w ∈ L.filter vx_no, w.before args s = true)
    (hU : (Cond.isRef (.static Bundle.tN "UNASSIGNED_STACK" Bundle.steD)).before args s = true) (hN : (Cond.isRef (.static Bundle.tN "SUPPRESSED_SENTINEL" Bundle.listD)).before args s = true)
    (lU : (Cond.laysStatic Bundle.tN "UNASSIGNED_STACK" Bundle.steD).before args s = true) (lN : (Cond.laysStatic Bundle.tN "SUPPRESSED_SENTINEL" Bundle.listD).before args s = true) : ∀ w ∈ L, w.before args s = true := by
  intro w hw
  by_cases e1 : w = .isRef (.static Bundle.tN "UNASSIGNED_STACK" Bundle.steD)
  · rw [e1]; exact hU
  · by_cases e2 : w = .isRef (.static Bundle.tN "SUPPRESSED_SENTINEL" Bundle.listD)
    · rw [e2]; exact hN
    · by_cases e3 : w = .laysStatic Bundle.tN "UNASSIGNED_STACK" Bundle.steD
      · rw [e3]; exact lU
      · by_cases e4 : w = .laysStatic Bundle.tN "SUPPRESSED_SENTINEL" Bundle.listD
        · rw [e4]; exact lN
        · exact h1 w (List.mem_filter.mpr ⟨hw, by unfold vx_no; rw [decide_eq_true e1, decide_eq_true e2, decide_eq_true e3, decide_eq_true e4]; rfl⟩)
/-- where a static field lies, its class's statics cell in H -/
def vx_L (C n d : String) (A : Nat → Prop) (U : State) (H : Heap) : Prop := ∃ (c : ClassId) (k : Class) (i : Nat) (f : Field) (a : Nat) (cell : Cell), U.vm.findClass C = some c ∧ U.fieldFound? C n d = some (c, k, i, f) ∧ f.isStatic = true ∧ k.statics = some a ∧ H[a]? = some cell ∧ cell.vm.isStatics = true ∧ cell.cls = c ∧ f.slot < cell.slots.size ∧ k.staticTypes[f.slot]? = some f.type ∧ ¬ A a
theorem vx_L.moved {C n d : String} {A : Nat → Prop} {u U : State} {H : Heap} (hvm : u.vm.Alike U.vm) (h : vx_L C n d A u H) : vx_L C n d A U H := by
  obtain ⟨c, k, i, f, a, cell, h1, h2, h3, h4, h5, h6, h7, h8, h9, h10⟩ := h
  obtain ⟨k', hi', he⟩ := State.fieldFound?_setVm hvm h2
  exact ⟨c, k', i, f, a, cell, by rw [hvm.findClass]; exact h1, hi', h3, by rw [he]; exact h4, h5, h6, h7, h8, by rw [he]; exact h9, h10⟩
theorem vx_L.kept {C n d : String} {A : Nat → Prop} {U : State} {H H1 : Heap} (h : vx_L C n d A U H) (hq : ∀ a : Nat, a < H.size → ¬ A a → H1[a]? = H[a]?) : vx_L C n d A U H1 := by
  obtain ⟨c, k, i, f, a, cell, h1, h2, h3, h4, h5, h6, h7, h8, h9, h10⟩ := h
  exact ⟨c, k, i, f, a, cell, h1, h2, h3, h4, by rw [hq a (Array.getElem?_eq_some_iff.mp h5).1 h10]; exact h5, h6, h7, h8, h9, h10⟩
theorem vx_L.narrow {C n d : String} {A B : Nat → Prop} {U : State} {H : Heap} (h : vx_L C n d A U H) (hAB : ∀ q, B q → A q) : vx_L C n d B U H := by
  obtain ⟨c, k, i, f, a, cell, h1, h2, h3, h4, h5, h6, h7, h8, h9, h10⟩ := h
  exact ⟨c, k, i, f, a, cell, h1, h2, h3, h4, h5, h6, h7, h8, h9, fun z => h10 (hAB _ z)⟩
theorem vx_L.word {C n d : String} {A : Nat → Prop} {s : State} {args : Array Value} (h : vx_L C n d A s s.heap) : (Cond.laysStatic C n d).before args s = true := by
  obtain ⟨c, k, i, f, a, cell, h1, h2, h3, h4, h5, h6, h7, h8, h9, -⟩ := h
  show (Cond.laysStatic C n d).holds args s none s [] = true
  exact Cond.laysStatic_of h1 h2 h3 h4 h5 h6 h7 h8 h9
/-- .. and what it holds: null or some reference -/
def vx_Zq (C n d : String) (A : Nat → Prop) (U : State) (H : Heap) : Prop := va_Zq C n d A U H ∧ vx_L C n d A U H
theorem vx_Zq.moved {C n d : String} {A : Nat → Prop} {u U : State} {H : Heap} (hvm : u.vm.Alike U.vm) (h : vx_Zq C n d A u H) : vx_Zq C n d A U H := ⟨va_Zq.moved hvm h.1, vx_L.moved hvm h.2⟩
theorem vx_Zq.kept {C n d : String} {A : Nat → Prop} {U : State} {H H1 : Heap} (h : vx_Zq C n d A U H) (hq : ∀ a : Nat, a < H.size → ¬ A a → H1[a]? = H[a]?) : vx_Zq C n d A U H1 := ⟨va_Zq.kept h.1 hq, vx_L.kept h.2 hq⟩
theorem vx_Zq.narrow {C n d : String} {A B : Nat → Prop} {U : State} {H : Heap} (h : vx_Zq C n d A U H) (hAB : ∀ q, B q → A q) : vx_Zq C n d B U H := ⟨va_Zq.narrow h.1 hAB, vx_L.narrow h.2 hAB⟩
theorem vx_Zqof {args : Array Value} {s : State} {C n d : String} {A : Nat → Prop} (hl : (Cond.laysStatic C n d).before args s = true) (hini : (Cond.initialized C).before args s = true) (h : (Cond.isRef (.static C n d)).before args s = true) (hA : ∀ a : Nat, a < s.heap.size → ¬ A a) : vx_Zq C n d A s s.heap := by
  refine ⟨va_Zqof hl hini h hA, ?_⟩
  obtain ⟨c, k, i, f, a, cell, h1, h2, h3, h4, h5, h6, h7, h8, h9⟩ := Cond.laysStatic_spec hl
  exact ⟨c, k, i, f, a, cell, h1, h2, h3, h4, h5, h6, h7, h8, h9, hA a (Array.getElem?_eq_some_iff.mp h5).1⟩
theorem vx_isRef {C n d : String} {v : Value} {A : Nat → Prop} {s : State} {args : Array Value} (h : va_Z C n d v A s s.heap) (hv : v.isRef = true) : (Cond.isRef (.static C n d)).before args s = true := by
  obtain ⟨cf, kf, fi, f, a, cell, h1, h2, h3, h4, h5, h6, h7, -⟩ := h
  have he : (Term.static C n d).eval args s none [] s = some v := by
    simp [Term.eval, State.fieldNamed?, h1, h2, h4, h5, h6, h7]
  simp only [Cond.before, Cond.holds, Cond.value, he]
  cases v <;> simp_all [Value.isRef]
theorem vx_isRefq {C n d : String} {A : Nat → Prop} {s : State} {args : Array Value} (h : va_Zq C n d A s s.heap) : (Cond.isRef (.static C n d)).before args s = true := by
  rcases h with h | ⟨t, h⟩
  · exact vx_isRef h rfl
  · exact vx_isRef h rfl
/-- the same frame, seen from here: as if the method were called anew in this heap -/
theorem vx_rebase {T : State} (X : Stand p l e R s m args below meth c T locs cells slots) {R' : Room} (hf : R'.frames ≤ R.frames) (hl : R'.locals ≤ R.locals) (hc : cells + R'.cells ≤ R.cells) (hs : slots + R'.slots ≤ R.slots) :
    Stand p l e R' ((T.setVm s.vm).setFrames (.invoking m args :: below)) m args below meth c T [] 0 0 := by
  have htop : (T.setVm s.vm).topJava?.isSome := X.here.top
  have hF : ((T.setVm s.vm).setFrames (.invoking m args :: below)).frames = .invoking m args :: below := State.frames_setFrames _ (State.cur_lt_of_top htop)
  obtain ⟨g₀, hg0⟩ := Option.isSome_iff_exists.mp htop
  obtain ⟨r, hr⟩ := State.topJava?_eq_some.mp hg0
  have hl9 : e.platform.stackLimits (T.setVm s.vm).me = e.platform.stackLimits s.me := X.limits
  have hb9 : (T.setVm s.vm).me.stackBytes = s.me.stackBytes := X.bytes
  refine ⟨X.admits, X.cas, X.clock, hF, ?_, X.hears, X.method, X.code, X.here, X.tail, X.warmed, ?_, ?_, ?_⟩
  · have h := X.room
    have hU : ((T.setVm s.vm).setFrames (.invoking m args :: below)).localsInUse = s.localsInUse := by
      rw [State.localsInUse_invoking hF (meth := meth) (c := c) X.method X.code, State.localsInUse_invoking X.frames X.method X.code]
    simp only [State.hasRoom, Bool.and_eq_true, decide_eq_true_eq] at h ⊢
    obtain ⟨⟨⟨⟨h1, h2, h3, h4, h5, h6⟩, h7⟩, h8⟩, h9⟩ := h
    rw [X.frames, List.length_cons] at h2 h3
    have q1 := X.heapSize
    have q2 := X.used
    simp only [hF, hU, List.length_cons, State.stackLimits_setFrames, State.stackBytes_setFrames, hl9, hb9]
    refine ⟨⟨⟨⟨by omega, by omega, by omega, by omega, by omega, h6⟩, ?_⟩, ?_⟩, X.book⟩
    · show T.heap.size + R'.cells ≤ e.platform.maxCells
      omega
    · show T.slotsUsed + R'.slots ≤ e.platform.maxSlots
      omega
  · rw [State.stackLimits_setFrames]; rfl
  · rw [State.stackBytes_setFrames]; rfl
  · refine ⟨?_, Nat.le_refl _, Nat.le_refl _, ?_, ?_, fun a c9 h9 => ⟨c9, h9, rfl, rfl, fun _ _ => rfl⟩⟩
    · obtain ⟨t, ht, -⟩ := State.frames_cons hr
      show T.setVm s.vm = { ((T.setVm s.vm).setFrames (.invoking m args :: below)).setFrames (T.setVm s.vm).frames with heap := T.heap, slotsUsed := T.slotsUsed }
      rw [State.setFrames_setFrames, State.setFrames_self ht]
      rfl
    · show T.slotsUsed = T.slotsUsed + ((T.heap.toList.drop T.heap.size).map (·.slots.size)).sum
      rw [List.drop_eq_nil_of_le (Nat.le_of_eq Array.length_toList)]
      rfl
    · show ((T.heap.toList.drop T.heap.size).map (·.slots.size)).sum ≤ 0
      rw [List.drop_eq_nil_of_le (Nat.le_of_eq Array.length_toList)]
      exact Nat.le_refl _
/-- 'throw new E()': new; dup; invokespecial; athrow -/
theorem vx_throw0 {cc : ByteArray} {pc : Nat} (hexec : p.tables.exec = Jvm.exec) (hb : c.code = cc) (hl : l.stackTraces = false) {own cls : String} {names : List String} {ik ic mc ms : Nat} {A : Nat → Prop}
    (hown : s.vm.findClass own = some m.cls) (hcls : Bundle.fit cls = true) (hnames : ∀ n ∈ names, Bundle.fit n = true)
    (hk : (Cond.classLink own ik cls).before args s = true) (hini : (Cond.initialized cls).before args s = true) (hat : ∀ w ∈ vx_at0 own ic cls names, w.before args s = true)
    (hgood : ∀ w ∈ Cond.classLink own ik cls :: Cond.initialized cls :: vx_at0 own ic cls names, vx_ot w = true)
    (hU : vx_Zq Bundle.tN "UNASSIGNED_STACK" Bundle.steD A s s.heap) (hN : vx_Zq Bundle.tN "SUPPRESSED_SENTINEL" Bundle.listD A s s.heap) (hS : va_S A s.heap H locs) (hsize : ls.size = c.maxLocals)
    (d0 : decode cc pc = .ok (.new ik, 3)) (d3 : decode cc (pc + 3) = .ok (.dup, 1)) (d4 : decode cc (pc + 4) = .ok (.invokespecial ic, 3)) (d7 : decode cc (pc + 7) = .ok (.athrow, 1))
    (hout : ∀ x ∈ c.exceptionTable.toList, covers x (pc + 7) = false)
    (hRframes : names.length + 3 < R.frames) (hRlocals : (rest.map fun v => v.category).sum + (13 * (names.length + 1) + 42) ≤ R.locals) (hRcells : cells + 1 ≤ R.cells) (hRslots : slots + 6 ≤ R.slots) (hlocks : meth.locks = false)
    (hx : ∀ t : State, s.vm.Alike t.vm → H.size ≤ t.heap.size → (∀ q : Nat, q < H.size → t.heap[q]? = H[q]?) → XC cls s t)
    (hf : ∀ z ∈ locs, free z.base) (hc : cells + 1 ≤ mc) (hs : slots + 6 ≤ ms) :
    W p l e R s m args below meth c H locs cells slots (vx_MQ below Qc XC args s mc ms free) (F0 m pc ls rest) := by
  intro T hT X
  have htr : e.platform.stackTraces = false := (show e.platform.stackTraces = l.stackTraces by rw [X.admits.platform]).trans hl
  have Y := vx_rebase X (R' := { frames := R.frames, locals := R.locals, cells := 1, slots := 6 }) (Nat.le_refl _) (Nat.le_refl _) hRcells hRslots
  obtain ⟨s', hA⟩ : ∃ z, z = (T.setVm s.vm).setFrames (.invoking m args :: below) := ⟨_, rfl⟩
  rw [← hA] at Y
  have hvm : s'.vm = s.vm := by rw [hA]; rfl
  have hhp : s'.heap = H := by rw [hA]; exact hT
  have hW0 : s.WarmedH s'.vm := by rw [hvm]; exact State.WarmedH.refl s
  have hat' : ∀ w ∈ vx_at0 own ic cls names, w.before args s' = true := fun w hw => vx_ot_at hW0 hvm.symm (hgood w (List.mem_cons_of_mem _ (List.mem_cons_of_mem _ hw))) (hat w hw)
  have hk' : (Cond.classLink own ik cls).before args s' = true := vx_ot_at hW0 hvm.symm (hgood _ List.mem_cons_self) hk
  have hini' : (Cond.initialized cls).before args s' = true := vx_ot_at hW0 hvm.symm (hgood _ (List.mem_cons_of_mem _ List.mem_cons_self)) hini
  have hU' : vx_Zq Bundle.tN "UNASSIGNED_STACK" Bundle.steD A s' s'.heap := by rw [hhp]; exact vx_Zq.moved hW0.alike (hU.kept hS.2.1)
  have hN' : vx_Zq Bundle.tN "SUPPRESSED_SENTINEL" Bundle.listD A s' s'.heap := by rw [hhp]; exact vx_Zq.moved hW0.alike (hN.kept hS.2.1)
  have h : ∀ w ∈ Bundle.ownAtoms0 own ic cls names, w.before args s' = true := vx_own hat' (vx_isRefq hU'.1) (vx_isRefq hN'.1) hU'.2.word hN'.2.word
  have hown' : s'.vm.findClass own = some m.cls := by rw [hvm]; exact hown
  have hins : (Cond.instantiable cls 6).before args s' = true := h _ (by simp [Bundle.ownAtoms0])
  obtain ⟨vm₁, cX, kX, hfX, hkX, -, -, X₁, st1⟩ := Y.newCold hexec (own := own) (C := cls) (index := ik) (n := 6) hown' hk' hins hini'
    (g := F0 m pc ls rest) rfl (by rw [hb]; exact d0) (Nat.le_refl _) (Nat.le_refl _)
  generalize hT1 : (T.setVm vm₁).pushCell { cls := cX, slots := kX.instanceTypes.map defaultValue, vm := .none } = T1 at X₁ st1
  have hcat : (Value.ref T.heap.size).category = 1 := rfl
  have hcellA : T1.heap[T.heap.size]? = some (freshCell cX kX) := by rw [← hT1]; exact State.heap_pushCell_size _ _
  have d3' : decode c.code (pc + 3) = .ok (.dup, 1) := by rw [hb]; exact d3
  obtain ⟨U, hsteps, hrun, hend, hW, hsame, ce, hce, hO⟩ := X₁.ctorThrow0 hexec htr (own := own) (cls := cls) (names := names) (ic := ic) hown' hcls hnames h (fun x hx => nomatch hx) hfX hkX hcellA (by rw [hhp, hT]; exact Nat.le_refl _)
    (g := { method := m, pc := pc + 4, locals := ls, stack := .ref T.heap.size :: .ref T.heap.size :: rest, locked := none }) rfl hsize rfl rfl (rest := rest) rfl
    (by rw [hb]; exact d4) (by rw [hb]; exact d7) hout hRframes (by simp only [List.map_cons, List.sum_cons, hcat]; omega) hlocks
  obtain ⟨f1, f2⟩ := vx_frame hsame
  rw [hhp] at f1 f2
  have hWs : s.WarmedH U.vm := State.WarmedH.trans hW0 hW
  have hcl : s.vm.findClass cls = some ce.cls := by
    have h9 := hO.cls
    rw [hvm] at h9
    exact h9
  have hall : s.sameButNew ({ U with vm := s.vm } : State) locs mc ms := by
    subst hA
    obtain ⟨e1, e2⟩ := hsame
    rw [State.setFrames_setFrames] at e1
    have h2 : (T.setVm s.vm).sameButNew ({ U with vm := s.vm } : State) [] (0 + 1) (0 + 6) := ⟨e1, e2⟩
    have h3 := X.same.trans h2
    rw [List.append_nil] at h3
    exact h3.mono hc hs
  refine ⟨U, ?_, .threw T.heap.size, hrun, hend, Or.inr ⟨T.heap.size, rfl, cls, ce, locs, hx U hWs.alike f1 (fun q hq => f2 q hq (fun z hz => nomatch hz)), hce, hO.vm, hcl, hWs, hall, hf⟩⟩
  refine st1 _ ?_
  show Steps p.tables e below (T1.setTop { method := m, pc := pc + 3, locals := ls, stack := .ref T.heap.size :: rest, locked := none }) _
  jvm_step X₁.here [X₁.here.top, hexec, d3', Value.category]
  exact hsteps
/-- 'throw new E("text")': new; dup; ldc; invokespecial; athrow -/
theorem vx_throwS {cc : ByteArray} {pc : Nat} (hexec : p.tables.exec = Jvm.exec) (hb : c.code = cc) (hl : l.stackTraces = false) {own cls text : String} {names : List String} {ik is ic mc ms sa : Nat} {A : Nat → Prop}
    (hown : s.vm.findClass own = some m.cls) (hcls : Bundle.fit cls = true) (hnames : ∀ n ∈ names, Bundle.fit n = true)
    (hk : (Cond.classLink own ik cls).before args s = true) (hini : (Cond.initialized cls).before args s = true) (hstr : vk_R own is text sa s) (hat : ∀ w ∈ vx_atS own ic cls names, w.before args s = true)
    (hgood : ∀ w ∈ Cond.classLink own ik cls :: Cond.initialized cls :: vx_atS own ic cls names, vx_ot w = true)
    (hU : vx_Zq Bundle.tN "UNASSIGNED_STACK" Bundle.steD A s s.heap) (hN : vx_Zq Bundle.tN "SUPPRESSED_SENTINEL" Bundle.listD A s s.heap) (hS : va_S A s.heap H locs) (hsize : ls.size = c.maxLocals)
    (d0 : decode cc pc = .ok (.new ik, 3)) (d3 : decode cc (pc + 3) = .ok (.dup, 1)) (d4 : decode cc (pc + 4) = .ok (.ldc is, 2)) (d6 : decode cc (pc + 6) = .ok (.invokespecial ic, 3)) (d9 : decode cc (pc + 9) = .ok (.athrow, 1))
    (hout : ∀ x ∈ c.exceptionTable.toList, covers x (pc + 9) = false)
    (hRframes : names.length + 3 < R.frames) (hRlocals : (rest.map fun v => v.category).sum + (13 * (names.length + 1) + 43) ≤ R.locals) (hRcells : cells + 1 ≤ R.cells) (hRslots : slots + 6 ≤ R.slots) (hlocks : meth.locks = false)
    (hx : ∀ t : State, s.vm.Alike t.vm → H.size ≤ t.heap.size → (∀ q : Nat, q < H.size → t.heap[q]? = H[q]?) → XC cls s t)
    (hf : ∀ z ∈ locs, free z.base) (hc : cells + 1 ≤ mc) (hs : slots + 6 ≤ ms) :
    W p l e R s m args below meth c H locs cells slots (vx_MQ below Qc XC args s mc ms free) (F0 m pc ls rest) := by
  intro T hT X
  have htr : e.platform.stackTraces = false := (show e.platform.stackTraces = l.stackTraces by rw [X.admits.platform]).trans hl
  have Y := vx_rebase X (R' := { frames := R.frames, locals := R.locals, cells := 1, slots := 6 }) (Nat.le_refl _) (Nat.le_refl _) hRcells hRslots
  obtain ⟨s', hA⟩ : ∃ z, z = (T.setVm s.vm).setFrames (.invoking m args :: below) := ⟨_, rfl⟩
  rw [← hA] at Y
  have hvm : s'.vm = s.vm := by rw [hA]; rfl
  have hhp : s'.heap = H := by rw [hA]; exact hT
  have hW0 : s.WarmedH s'.vm := by rw [hvm]; exact State.WarmedH.refl s
  have hat' : ∀ w ∈ vx_atS own ic cls names, w.before args s' = true := fun w hw => vx_ot_at hW0 hvm.symm (hgood w (List.mem_cons_of_mem _ (List.mem_cons_of_mem _ hw))) (hat w hw)
  have hk' : (Cond.classLink own ik cls).before args s' = true := vx_ot_at hW0 hvm.symm (hgood _ List.mem_cons_self) hk
  have hini' : (Cond.initialized cls).before args s' = true := vx_ot_at hW0 hvm.symm (hgood _ (List.mem_cons_of_mem _ List.mem_cons_self)) hini
  have hU' : vx_Zq Bundle.tN "UNASSIGNED_STACK" Bundle.steD A s' s'.heap := by rw [hhp]; exact vx_Zq.moved hW0.alike (hU.kept hS.2.1)
  have hN' : vx_Zq Bundle.tN "SUPPRESSED_SENTINEL" Bundle.listD A s' s'.heap := by rw [hhp]; exact vx_Zq.moved hW0.alike (hN.kept hS.2.1)
  have h : ∀ w ∈ Bundle.ownAtoms own ic cls names, w.before args s' = true := vx_own hat' (vx_isRefq hU'.1) (vx_isRefq hN'.1) hU'.2.word hN'.2.word
  have hown' : s'.vm.findClass own = some m.cls := by rw [hvm]; exact hown
  have hins : (Cond.instantiable cls 6).before args s' = true := h _ (by simp [Bundle.ownAtoms])
  obtain ⟨vm₁, cX, kX, hfX, hkX, -, -, X₁, st1⟩ := Y.newCold hexec (own := own) (C := cls) (index := ik) (n := 6) hown' hk' hins hini'
    (g := F0 m pc ls rest) rfl (by rw [hb]; exact d0) (Nat.le_refl _) (Nat.le_refl _)
  generalize hT1 : (T.setVm vm₁).pushCell { cls := cX, slots := kX.instanceTypes.map defaultValue, vm := .none } = T1 at X₁ st1
  have hcat : (Value.ref T.heap.size).category = 1 := rfl
  have hcellA : T1.heap[T.heap.size]? = some (freshCell cX kX) := by rw [← hT1]; exact State.heap_pushCell_size _ _
  have d3' : decode c.code (pc + 3) = .ok (.dup, 1) := by rw [hb]; exact d3
  have d4' : decode c.code (pc + 4) = .ok (.ldc is, 2) := by rw [hb]; exact d4
  have hstr' : vk_R own is text sa s' := vk_R.warm hW0 hstr
  obtain ⟨U, hsteps, hrun, hend, hW, hsame, ce, hce, hO⟩ := X₁.ctorThrowS hexec htr (own := own) (cls := cls) (names := names) (ic := ic) hown' hcls hnames h (fun x hx => nomatch hx) hfX hkX hcellA (by rw [hhp, hT]; exact Nat.le_refl _) (msg := .ref sa) rfl
    (g := { method := m, pc := pc + 6, locals := ls, stack := .ref sa :: .ref T.heap.size :: .ref T.heap.size :: rest, locked := none }) rfl hsize rfl rfl (rest := rest) rfl
    (by rw [hb]; exact d6) (by rw [hb]; exact d9) hout hRframes (by simp only [List.map_cons, List.sum_cons, hcat]; omega) hlocks
  obtain ⟨f1, f2⟩ := vx_frame hsame
  rw [hhp] at f1 f2
  have hWs : s.WarmedH U.vm := State.WarmedH.trans hW0 hW
  have hcl : s.vm.findClass cls = some ce.cls := by
    have h9 := hO.cls
    rw [hvm] at h9
    exact h9
  have hall : s.sameButNew ({ U with vm := s.vm } : State) locs mc ms := by
    subst hA
    obtain ⟨e1, e2⟩ := hsame
    rw [State.setFrames_setFrames] at e1
    have h2 : (T.setVm s.vm).sameButNew ({ U with vm := s.vm } : State) [] (0 + 1) (0 + 6) := ⟨e1, e2⟩
    have h3 := X.same.trans h2
    rw [List.append_nil] at h3
    exact h3.mono hc hs
  refine ⟨U, ?_, .threw T.heap.size, hrun, hend, Or.inr ⟨T.heap.size, rfl, cls, ce, locs, hx U hWs.alike f1 (fun q hq => f2 q hq (fun z hz => nomatch hz)), hce, hO.vm, hcl, hWs, hall, hf⟩⟩
  refine st1 _ ?_
  show Steps p.tables e below (T1.setTop { method := m, pc := pc + 3, locals := ls, stack := .ref T.heap.size :: rest, locked := none }) _
  jvm_step X₁.here [X₁.here.top, hexec, d3', Value.category]
  exact X₁.ldcString hexec (own := own) (text := text) (index := is) (a := sa) hown' hstr'.1 hstr'.2
    (g := { method := m, pc := pc + 4, locals := ls, stack := .ref T.heap.size :: .ref T.heap.size :: rest, locked := none }) rfl d4' _ hsteps
/-- 'throw new E("text")', the text by a wide index -/
theorem vx_throwSW {cc : ByteArray} {pc : Nat} (hexec : p.tables.exec = Jvm.exec) (hb : c.code = cc) (hl : l.stackTraces = false) {own cls text : String} {names : List String} {ik is ic mc ms sa : Nat} {A : Nat → Prop}
    (hown : s.vm.findClass own = some m.cls) (hcls : Bundle.fit cls = true) (hnames : ∀ n ∈ names, Bundle.fit n = true)
    (hk : (Cond.classLink own ik cls).before args s = true) (hini : (Cond.initialized cls).before args s = true) (hstr : vk_R own is text sa s) (hat : ∀ w ∈ vx_atS own ic cls names, w.before args s = true)
    (hgood : ∀ w ∈ Cond.classLink own ik cls :: Cond.initialized cls :: vx_atS own ic cls names, vx_ot w = true)
    (hU : vx_Zq Bundle.tN "UNASSIGNED_STACK" Bundle.steD A s s.heap) (hN : vx_Zq Bundle.tN "SUPPRESSED_SENTINEL" Bundle.listD A s s.heap) (hS : va_S A s.heap H locs) (hsize : ls.size = c.maxLocals)
    (d0 : decode cc pc = .ok (.new ik, 3)) (d3 : decode cc (pc + 3) = .ok (.dup, 1)) (d4 : decode cc (pc + 4) = .ok (.ldc_w is, 3)) (d7 : decode cc (pc + 7) = .ok (.invokespecial ic, 3)) (d10 : decode cc (pc + 10) = .ok (.athrow, 1))
    (hout : ∀ x ∈ c.exceptionTable.toList, covers x (pc + 10) = false)
    (hRframes : names.length + 3 < R.frames) (hRlocals : (rest.map fun v => v.category).sum + (13 * (names.length + 1) + 43) ≤ R.locals) (hRcells : cells + 1 ≤ R.cells) (hRslots : slots + 6 ≤ R.slots) (hlocks : meth.locks = false)
    (hx : ∀ t : State, s.vm.Alike t.vm → H.size ≤ t.heap.size → (∀ q : Nat, q < H.size → t.heap[q]? = H[q]?) → XC cls s t)
    (hf : ∀ z ∈ locs, free z.base) (hc : cells + 1 ≤ mc) (hs : slots + 6 ≤ ms) :
    W p l e R s m args below meth c H locs cells slots (vx_MQ below Qc XC args s mc ms free) (F0 m pc ls rest) := by
  intro T hT X
  have htr : e.platform.stackTraces = false := (show e.platform.stackTraces = l.stackTraces by rw [X.admits.platform]).trans hl
  have Y := vx_rebase X (R' := { frames := R.frames, locals := R.locals, cells := 1, slots := 6 }) (Nat.le_refl _) (Nat.le_refl _) hRcells hRslots
  obtain ⟨s', hA⟩ : ∃ z, z = (T.setVm s.vm).setFrames (.invoking m args :: below) := ⟨_, rfl⟩
  rw [← hA] at Y
  have hvm : s'.vm = s.vm := by rw [hA]; rfl
  have hhp : s'.heap = H := by rw [hA]; exact hT
  have hW0 : s.WarmedH s'.vm := by rw [hvm]; exact State.WarmedH.refl s
  have hat' : ∀ w ∈ vx_atS own ic cls names, w.before args s' = true := fun w hw => vx_ot_at hW0 hvm.symm (hgood w (List.mem_cons_of_mem _ (List.mem_cons_of_mem _ hw))) (hat w hw)
  have hk' : (Cond.classLink own ik cls).before args s' = true := vx_ot_at hW0 hvm.symm (hgood _ List.mem_cons_self) hk
  have hini' : (Cond.initialized cls).before args s' = true := vx_ot_at hW0 hvm.symm (hgood _ (List.mem_cons_of_mem _ List.mem_cons_self)) hini
  have hU' : vx_Zq Bundle.tN "UNASSIGNED_STACK" Bundle.steD A s' s'.heap := by rw [hhp]; exact vx_Zq.moved hW0.alike (hU.kept hS.2.1)
  have hN' : vx_Zq Bundle.tN "SUPPRESSED_SENTINEL" Bundle.listD A s' s'.heap := by rw [hhp]; exact vx_Zq.moved hW0.alike (hN.kept hS.2.1)
  have h : ∀ w ∈ Bundle.ownAtoms own ic cls names, w.before args s' = true := vx_own hat' (vx_isRefq hU'.1) (vx_isRefq hN'.1) hU'.2.word hN'.2.word
  have hown' : s'.vm.findClass own = some m.cls := by rw [hvm]; exact hown
  have hins : (Cond.instantiable cls 6).before args s' = true := h _ (by simp [Bundle.ownAtoms])
  obtain ⟨vm₁, cX, kX, hfX, hkX, -, -, X₁, st1⟩ := Y.newCold hexec (own := own) (C := cls) (index := ik) (n := 6) hown' hk' hins hini'
    (g := F0 m pc ls rest) rfl (by rw [hb]; exact d0) (Nat.le_refl _) (Nat.le_refl _)
  generalize hT1 : (T.setVm vm₁).pushCell { cls := cX, slots := kX.instanceTypes.map defaultValue, vm := .none } = T1 at X₁ st1
  have hcat : (Value.ref T.heap.size).category = 1 := rfl
  have hcellA : T1.heap[T.heap.size]? = some (freshCell cX kX) := by rw [← hT1]; exact State.heap_pushCell_size _ _
  have d3' : decode c.code (pc + 3) = .ok (.dup, 1) := by rw [hb]; exact d3
  have d4' : decode c.code (pc + 4) = .ok (.ldc_w is, 3) := by rw [hb]; exact d4
  have hstr' : vk_R own is text sa s' := vk_R.warm hW0 hstr
  obtain ⟨U, hsteps, hrun, hend, hW, hsame, ce, hce, hO⟩ := X₁.ctorThrowS hexec htr (own := own) (cls := cls) (names := names) (ic := ic) hown' hcls hnames h (fun x hx => nomatch hx) hfX hkX hcellA (by rw [hhp, hT]; exact Nat.le_refl _) (msg := .ref sa) rfl
    (g := { method := m, pc := pc + 7, locals := ls, stack := .ref sa :: .ref T.heap.size :: .ref T.heap.size :: rest, locked := none }) rfl hsize rfl rfl (rest := rest) rfl
    (by rw [hb]; exact d7) (by rw [hb]; exact d10) hout hRframes (by simp only [List.map_cons, List.sum_cons, hcat]; omega) hlocks
  obtain ⟨f1, f2⟩ := vx_frame hsame
  rw [hhp] at f1 f2
  have hWs : s.WarmedH U.vm := State.WarmedH.trans hW0 hW
  have hcl : s.vm.findClass cls = some ce.cls := by
    have h9 := hO.cls
    rw [hvm] at h9
    exact h9
  have hall : s.sameButNew ({ U with vm := s.vm } : State) locs mc ms := by
    subst hA
    obtain ⟨e1, e2⟩ := hsame
    rw [State.setFrames_setFrames] at e1
    have h2 : (T.setVm s.vm).sameButNew ({ U with vm := s.vm } : State) [] (0 + 1) (0 + 6) := ⟨e1, e2⟩
    have h3 := X.same.trans h2
    rw [List.append_nil] at h3
    exact h3.mono hc hs
  refine ⟨U, ?_, .threw T.heap.size, hrun, hend, Or.inr ⟨T.heap.size, rfl, cls, ce, locs, hx U hWs.alike f1 (fun q hq => f2 q hq (fun z hz => nomatch hz)), hce, hO.vm, hcl, hWs, hall, hf⟩⟩
  refine st1 _ ?_
  show Steps p.tables e below (T1.setTop { method := m, pc := pc + 3, locals := ls, stack := .ref T.heap.size :: rest, locked := none }) _
  jvm_step X₁.here [X₁.here.top, hexec, d3', Value.category]
  exact X₁.ldcStringW hexec (own := own) (text := text) (index := is) (a := sa) hown' hstr'.1 hstr'.2
    (g := { method := m, pc := pc + 4, locals := ls, stack := .ref T.heap.size :: .ref T.heap.size :: rest, locked := none }) rfl d4' _ hsteps
end Ends
section Bodies
variable {l : Launch}
theorem vx_ofW {y : MethodName} {ws ws' : List Cond} {rm : Room} {Pc : Array Value → State → Prop} {Qc : Array Value → State → Outcome → State → Prop} {XC : String → State → State → Prop} {mc ms : Nat} {free : Addr → Prop} {cc : ByteArray} {maxL : Nat} {ret : Option FieldType}
    (hy : plainName y.cls = true) (hw : ws = Cond.code y cc maxL ret :: ws')
    (body : ∀ p e s m args below meth c s₁, BodyLoose p l y (headSpec ws rm) cc maxL ret e s m args below meth c s₁ → c.maxLocals = maxL → (∀ x ∈ c.exceptionTable.toList, False) → Pc args s →
      W p l e (headSpec ws rm).room s m args below meth c s.heap [] 0 0 (vx_MQ below Qc XC args s mc ms free) (entryFrame m args maxL)) : vx_Met l y ws rm Pc Qc XC mc ms free := by
  refine MetFree.of_bodyS (code := cc) (maxLocals := maxL) (ret := ret) hy ?_ ?_
  · intro args s m h hn
    obtain ⟨meth, c, h1, h2, h3, h4, h5, h6, -, -⟩ := Cond.code_spec hn (atoms_spec (ws := ws) h _ (by rw [hw]; exact List.mem_cons_self))
    exact ⟨meth, c, h1, h2, h3, h4, h5, h6⟩
  · intro p e s m args below meth c s₁ B hml hP _
    have hh0 : s₁.heap = s.heap := by rw [B.state]; rfl
    have ht : ∀ x ∈ c.exceptionTable.toList, False := by
      obtain ⟨meth9, c9, h1, h2, -, -, -, -, h7, -⟩ := Cond.code_spec B.named (atoms_spec (ws := ws) B.pre _ (by rw [hw]; exact List.mem_cons_self))
      cases Option.some.inj (h1.symm.trans B.method)
      cases Option.some.inj (h2.symm.trans (Stand.of_body B).code)
      intro x hx
      rw [Array.isEmpty_iff.mp h7] at hx
      cases hx
    obtain ⟨t, a1, o, b1, b2, b3⟩ := body p e s m args below meth c s₁ B hml ht hP s₁ hh0 (Stand.of_body B)
    exact ⟨t, o, a1, b1, b2, b3⟩
/-- the table of a body with handlers -/
theorem vx_table {p : Program} {x y : MethodName} {S : Spec} {cc bytes : ByteArray} {maxL maxL' : Nat} {ret ret' : Option FieldType} {e : Env} {s s₁ : State} {m : MethodId} {args : Array Value} {below : List Frame} {meth : Method} {c : Code} {hh : List (Nat × Nat × Nat × Nat)}
    (B : BodyLoose p l y S cc maxL ret e s m args below meth c s₁) (h : (Cond.codeWith y bytes maxL' ret' hh).before args s = true) : c.exceptionTable.toList = tableOf hh := by
  obtain ⟨m9, meth9, c9, hn9, h1, h2, -, -, h6, -⟩ := Cond.codeWith_spec h
  cases Option.some.inj (hn9.symm.trans B.named)
  cases Option.some.inj (h1.symm.trans B.method)
  cases Option.some.inj (h2.symm.trans (Stand.of_body B).code)
  rw [← h6, table_eq]
end Bodies
end VXA
/-! ===== END ===== -/
/-! ===== BEGIN a static call of a method with an exception table ===== -/
section VXS
variable {p : Program} {l : Launch} {e : Env} {R : Room} {s : State} {m : MethodId} {args : Array Value} {below : List Frame} {meth : Method} {c : Code} {T : State} {H : Heap} {locs : List Loc} {cells slots : Nat}
abbrev vx_CSW (R : Room) (s : State) (args : Array Value) (own : String) (index : Nat) (y : MethodName) (bytes : ByteArray) (maxL : Nat) (ret : Option FieldType) (hh : List (Nat × Nat × Nat × Nat)) (ws : List Cond) (rm : Room) (mc ms n : Nat) : Prop :=
  (rm.cells = mc ∧ rm.slots = ms ∧ rm.frames + 1 ≤ R.frames ∧ 8 + (maxL + 11) + rm.locals ≤ R.locals ∧ (∀ w ∈ ws, ∀ (a' : Array Value) (U : State), s.WarmedH U.vm → w.before a' U = true) ∧ Cond.codeWith y bytes maxL ret hh ∈ ws) ∧
  (Cond.codeWith y bytes maxL ret hh).before args s = true ∧ (Cond.initialized y.cls).before args s = true ∧ (y.cls ≠ "java/lang/invoke/MethodHandle" ∧ y.cls ≠ "java/lang/invoke/VarHandle") ∧
  (∀ sig, parseMethodDescriptor y.desc = some sig → n = sig.parameters.length) ∧ (Cond.methodLink own index y).before args s = true ∧ (Cond.static y).before args s = true
theorem vx_cwSW {own : String} {index maxL mc ms : Nat} {y : MethodName} {bytes : ByteArray} {ret : Option FieldType} {hh : List (Nat × Nat × Nat × Nat)} {Ts ws ws' : List Cond} {rm : Room} (n : Nat) (ht : ∀ w ∈ Ts, w.before args s = true) (hT : GoodIn Ts (va_wsS own index y ws)) (hw : ws = Cond.codeWith y bytes maxL ret hh :: ws') (hrc : rm.cells = mc) (hrs : rm.slots = ms)
    (hd : y.cls ≠ "java/lang/invoke/MethodHandle" ∧ y.cls ≠ "java/lang/invoke/VarHandle" ∧ (parseMethodDescriptor y.desc).map (fun d => d.parameters.length) = some n) (hR : rm.frames + 1 ≤ R.frames ∧ 8 + (maxL + 11) + rm.locals ≤ R.locals) :
    vx_CSW R s args own index y bytes maxL ret hh ws rm mc ms n := by
  have ok : ∀ w ∈ va_wsS own index y ws, w.before args s = true := fun w h => ht w (hT w h).1
  have hG : GoodIn Ts ws := fun w h => hT w (by unfold va_wsS; exact List.mem_append_right _ h)
  have hc : Cond.codeWith y bytes maxL ret hh ∈ ws := by rw [hw]; exact List.mem_cons_self
  refine ⟨⟨hrc, hrs, hR.1, hR.2, pay_in ht hG, hc⟩, ht _ (hG _ hc).1, ok _ (by simp [va_wsS]), ⟨hd.1, hd.2.1⟩, fun sig h => ?_, ok _ (by simp [va_wsS]), ok _ (by simp [va_wsS])⟩
  have h2 := hd.2.2
  rw [h] at h2
  exact (Option.some.inj h2).symm
theorem vx_callSW (X : Stand p l e R s m args below meth c T locs cells slots) (hexec : p.tables.exec = Jvm.exec) {own : String} {index : Nat} {y : MethodName} {bytes : ByteArray} {maxL : Nat} {ret : Option FieldType} {hh : List (Nat × Nat × Nat × Nat)}
    (hown : s.vm.findClass own = some m.cls) (hlink : (Cond.methodLink own index y).before args s = true) (hstat : (Cond.static y).before args s = true) (hinit : (Cond.initialized y.cls).before args s = true)
    (hcode : (Cond.codeWith y bytes maxL ret hh).before args s = true) (hy : y.cls ≠ "java/lang/invoke/MethodHandle" ∧ y.cls ≠ "java/lang/invoke/VarHandle")
    {W9 : Nat} {Pre : Pt → Array Value → Prop} {Post : Pt → Array Value → Option Value → Pt → Prop} (hK : Back l R p e below s args y 3 W9 Pre Post)
    {g : JFrame} (hg : g.method = m) (hsize : g.locals.size = c.maxLocals) {argsL rest : List Value} (hlen : ∀ sig, parseMethodDescriptor y.desc = some sig → argsL.length = sig.parameters.length)
    (hstack : g.stack = argsL.reverse ++ rest) (hW : 2 * g.monitorRoom + (rest.map fun v => v.category).sum ≤ W9) (hdg : decode c.code g.pc = .ok (.invokestatic index, 3))
    (hpre : ∀ vm₁, s.WarmedH vm₁ → Pre ⟨T.setVm vm₁, locs, cells, slots⟩ argsL.toArray) :
    ∃ (v : Option Value) (vm₁ : Vm) (B : Pt), s.WarmedH vm₁ ∧ Stand p l e R s m args below meth c B.U B.locs B.cells B.slots ∧ Post ⟨T.setVm vm₁, locs, cells, slots⟩ argsL.toArray v B ∧
      ∀ target, Steps p.tables e below (B.U.setTop { g with pc := g.pc + 3, stack := v.toList ++ rest }) target → Steps p.tables e below (T.setTop g) target := by
  obtain ⟨mk, methM, cM, hnamed, hmethM, -, -, -, -, -, -, hsigM⟩ := Cond.codeWith_spec hcode
  have hstatic : methM.isStatic = true := Cond.static_spec hnamed hmethM hstat
  obtain ⟨kP, hkP, -⟩ := className_of_methodNamed hnamed
  have hinitP : kP.init = .initialized := Cond.initialized_spec (findClass_of_methodNamed hnamed) hkP hinit
  obtain ⟨vm₁, X₁, hstep₁⟩ := X.invokestatic hexec hown hlink hnamed hmethM hstatic hkP hinitP hy (g := g) hg (argsL := argsL) (rest := rest) (hlen _ hsigM) hstack hdg
  obtain ⟨v, B, X', hpost, hsteps⟩ := hK m meth c ⟨T.setVm vm₁, locs, cells, slots⟩ { g with stack := rest } (.invokestatic index) mk argsL.toArray X₁ hg hsize hdg hW (X₁.named hnamed) (hpre vm₁ X₁.warmed)
  exact ⟨v, vm₁, B, X₁.warmed, X', hpost, fun target h => hstep₁ _ fun acts => by rw [doInvoke_state]; exact hsteps.trans h⟩
theorem vx_runSW {y : MethodName} {bytes cc : ByteArray} {maxL nL mc ms n index : Nat} {ret : Option FieldType} {hh : List (Nat × Nat × Nat × Nat)} {ws : List Cond} {rm : Room} {Pc : Array Value → State → Prop} {Qc : Array Value → State → Outcome → State → Prop} {free : Addr → Prop} {Ts : List Cond} {own : String} {As rest : List Value} {g : JFrame}
    (S : CallFix p m c cc nL s args Ts own) (hM : Met l y ws rm Pc Qc mc ms free) (cw : vx_CSW R s args own index y bytes maxL ret hh ws rm mc ms n) (hp : PreS s H Pc As)
    (hg : g.method = m) (hn : As.length = n) (hsize : g.locals.size = nL) (hstack : g.stack = As.reverse ++ rest) (hW : 2 * g.monitorRoom + (rest.map fun v => v.category).sum ≤ 8) (hdg : decode cc g.pc = .ok (.invokestatic index, 3)) (hf : cells + mc ≤ R.cells ∧ slots + ms ≤ R.slots) :
    va_Run p l e R s m args below meth c H locs cells slots mc ms g rest (Qc As.toArray) (free) := by
  obtain ⟨⟨hrc, hrs, hfr, hlo, hws, hcw⟩, hcode, hini, hy, hlen, hl, hstt⟩ := cw
  have hK : Back l R p e below s args y 3 8 (PreOf R mc ms Pc) (PostOf Qc mc ms free) := va_backW (hh := hh) (bytes := bytes) (maxL := maxL) (ret := ret) hM hp.1 hrc hrs hfr hlo hws hcw (fun a' U hW => word_at hW (Or.inl (by first | rfl | simp [Cond.onTables, Cond.keeps, Cond.steady])) hini)
  obtain ⟨hx, hb, hml, ho, -⟩ := S
  intro T hT X
  obtain ⟨v, vm₁, ⟨U', l2, c2, s2⟩, hW₁, X', ⟨g', mk, t, L, e1, e2, hq, h1, hL, h2, h3⟩, st⟩ := vx_callSW X hx (hh := hh) (bytes := bytes) (maxL := maxL) (ret := ret) ho hl hstt hini hcode hy hK hg (hsize.trans hml.symm) (argsL := As) (rest := rest) (fun sig h => hn.trans (hlen sig h)) hstack hW (by rw [hb]; exact hdg)
    (fun vm₁ hW₁ => ⟨hf.1, hf.2, hp.2 (T.setVm vm₁) hT hW₁⟩)
  dsimp only [Pt.U, Pt.locs, Pt.cells, Pt.slots] at X' e1 e2 h1 h2 h3 st
  subst h1; subst h2; subst h3
  exact ⟨v, (T.setVm vm₁).calling g' mk As.toArray, t, U', L, hT, X', hL, e1, e2, hq, st⟩
/-- not caught here, past rows that name other classes: it goes on to the caller -/
theorem vx_outP {p : Program} {l : Launch} {e : Env} {R : Room} {s : State} {m : MethodId} {args : Array Value} {below : List Frame} {meth : Method} {c : Code} {H : Heap} {locs : List Loc} {cells slots : Nat} {free : Addr → Prop} {ls : Array Slot} {rest : List Value} {Qc : Array Value → State → Outcome → State → Prop} {XC : String → State → State → Prop}
    {pc : Nat} {own E : String} {ce : Cell} {q : Addr} {mc ms : Nat} (hown : s.vm.findClass own = some m.cls) (hlocks : meth.locks = false)
    (hpass : ∀ z ∈ c.exceptionTable.toList, covers z pc = false ∨ (z.catchType ≠ 0 ∧ ∃ nm : String, (Cond.classLink own z.catchType nm).before args s = true ∧ va_Nc E nm s)) (hcell : H[q]? = some ce) (hv : ce.vm = .none) (hcl : s.vm.findClass E = some ce.cls)
    (hx : ∀ t : State, t.heap = H → s.vm.Alike t.vm → XC E s t) (hf : ∀ z ∈ locs, free z.base) (hc : cells ≤ mc) (hs : slots ≤ ms) :
    vx_W p l e R s m args below meth c H locs cells slots (vx_MQ below Qc XC args s mc ms free) (F0 m pc ls rest) q := by
  intro T hT X
  have hpl : e.platform.magicAccessors = ({} : Platform).magicAccessors := by rw [X.admits.platform]
  obtain ⟨vm', hW', X', st⟩ := X.outThrough hlocks q (g := F0 m pc ls rest) rfl rfl rfl (cell := ce) (by rw [hT]; exact hcell) (by rw [hv]; rfl)
    (by obtain ⟨k9, h9, -⟩ := Vm.findClass_spec hcl; exact ⟨k9, h9⟩) (fun z hz => by
      rcases hpass z hz with h | ⟨hz0, nm, hl1, hn1⟩
      · exact Or.inl h
      · obtain ⟨c6, hc6, hcl6⟩ := Cond.classLink_spec hown hl1 e.platform hpl
        obtain ⟨a8, b8, h1, h2, h3⟩ := hn1
        cases Option.some.inj (h1.symm.trans hcl)
        cases Option.some.inj (h2.symm.trans hc6)
        exact Or.inr ⟨hz0, _, hcl6, h3⟩)
  obtain ⟨g₀, hfr⟩ := X'.frames_eq
  have hcell9 : ((T.setVm vm').setFrames (.throwing q :: below)).heap[q]? = some ce := by
    show T.heap[q]? = some ce
    rw [hT]; exact hcell
  have hend : Ended ((T.setVm vm').setFrames (.throwing q :: below)) below (.threw q) := State.frames_setFrames _ (State.cur_lt_of_frames hfr)
  refine ⟨(T.setVm vm').setFrames (.throwing q :: below), ?_, .threw q, X'.here.running, hend, Or.inr ⟨q, rfl, E, ce, locs, hx _ hT (X'.ends _).1.alike, hcell9, hv, hcl, (X'.ends _).1, (X'.ends _).2.mono hc hs, hf⟩⟩
  rw [X.pushThrowing_eq]
  exact st
/-- a thing of a world lies in the heap -/
theorem vx_lt {D : va_G} {cl : List vw_C} {ws : va_W} {H1 : Heap} (h : va_P D cl ws H1) {k : Nat} {q : Nat × va_E} (hk : ws[k]? = some q) : q.1 < H1.size := (h k q hk).lt
end VXS
/-! ===== END ===== -/
/-! ===== BEGIN methods with a table of their own: called by a name, returning or throwing ===== -/
section VXH
/-! vx_backW, vx_callVX, vx_callSX, vx_callVW, vx_runVW, vx_runVX, vx_runSX, vx_ofWH follow the same proofs as their sisters above (Free/Laws.lean, Shelf42/LK1.lean); vx_outP calls Shelf42/NT130.lean (outThrough). -/
section
variable {l : Launch} {R : Room} {p : Program} {e : Env} {below : List Frame} {s : State} {sargs : Array Value} {y : MethodName} {len W9 : Nat}
theorem vx_backW {ws : List Cond} {rm : Room} {Pc : Array Value → State → Prop} {Qc : Array Value → State → Outcome → State → Prop} {XC : String → State → State → Prop} {mc ms : Nat} {free : Addr → Prop} {bytes : ByteArray} {maxL : Nat} {ret : Option FieldType} {hh : List (Nat × Nat × Nat × Nat)}
    (hM : vx_Met l y ws rm Pc Qc XC mc ms free) (hblind : FrameBlind Pc) (hrc : rm.cells = mc) (hrs : rm.slots = ms)
    (hframes : rm.frames + 1 ≤ R.frames) (hlocals : W9 + (maxL + 11) + rm.locals ≤ R.locals)
    (hws : ∀ w ∈ ws, ∀ a' U, s.WarmedH U.vm → w.before a' U = true) (hcode : Cond.codeWith y bytes maxL ret hh ∈ ws) (hinit : ∀ a' U, s.WarmedH U.vm → (Cond.initialized y.cls).before a' U = true) :
    vx_Back l R p e below s sargs y len W9 (PreOf R mc ms Pc) (PostOf Qc mc ms free) (vx_Post XC mc ms free) := by
  intro m meth c A g ig mk a X hg hsize hdg hW hn hp
  have h1 : (headSpec ws rm).pre.before a A.U = true := atoms_intro fun w hw => hws w hw _ _ X.warmed
  have h2 : (Cond.codeWith y bytes maxL ret hh).before a A.U = true := hws _ hcode _ _ X.warmed
  have h3 : (Cond.initialized y.cls).before a A.U = true := hinit _ _ X.warmed
  have h4 : A.cells + (headSpec ws rm).room.cells ≤ R.cells := by rw [show (headSpec ws rm).room.cells = mc from hrc]; exact hp.1
  have h5 : A.slots + (headSpec ws rm).room.slots ≤ R.slots := by rw [show (headSpec ws rm).room.slots = ms from hrs]; exact hp.2.1
  have hPc : Pc a (A.U.calling g mk a) := hblind _ _ _ _ hp.2.2
  obtain ⟨U, Ls, c0, s0⟩ := A
  dsimp only [Pt.U, Pt.locs, Pt.cells, Pt.slots] at h1 h2 h3 h4 h5 X hn hPc ⊢
  obtain ⟨m9, methY, cY, hn9, hmY, hcY, -, hlY, -⟩ := Cond.codeWith_spec h2
  cases Option.some.inj (hn9.symm.trans hn)
  obtain ⟨kY, hkY, -⟩ := className_of_methodNamed hn
  have hinitY : kY.init = .initialized := Cond.initialized_spec (findClass_of_methodNamed hn) hkY h3
  have h : At U g.method c below := by rw [hg]; exact X.here
  have hlocals9 : W9 + (maxL + 11) + (headSpec ws rm).room.locals ≤ R.locals := hlocals
  have happ : (headSpec ws rm).appliesLoose y e.platform (U.calling g mk a) = true :=
    Spec.appliesLoose_calling (g := g) h hdg hn hkY hinitY
      (X.room_calling (g := g) (R' := (headSpec ws rm).room) hsize hmY hcY hframes (by rw [hlY]; omega) h4 h5) h1
  obtain ⟨mid, hmid⟩ := h.above
  have hfr : (U.setTop g).frames = (.java g :: mid) ++ below := by rw [State.frames_setTop' g h.top, hmid]; rfl
  obtain ⟨o, s₂, hsteps, -, hend, hq⟩ := Steps.callFree hM p X.admits X.cas X.clock (acts := []) hfr happ hPc trivial
  have hq' : vx_Q Qc XC mc ms free a (U.calling g mk a) o s₂ := hq
  rw [State.frames_setTop' g h.top] at hend
  obtain ⟨g₀, hg0⟩ := Option.isSome_iff_exists.mp h.top
  obtain ⟨r, hr⟩ := State.topJava?_eq_some.mp hg0
  have hr' : (({ U with heap := s₂.heap, slotsUsed := s₂.slotsUsed } : State).setVm s₂.vm).frames = .java g₀ :: r := hr
  rcases hq' with ⟨hqc, L, hfe, hL⟩ | ⟨q, rfl, E, ce, L, hx, hce, hcv, hcl, hW₂, hsm, hL⟩
  · obtain ⟨⟨v, rfl⟩, hW₂, e2, q2, q3, q4, q5, q6⟩ := id hfe
    have e3 : s₂ = ({ (U.calling g mk a).setFrames s₂.frames with heap := s₂.heap, slotsUsed := s₂.slotsUsed } : State).setVm s₂.vm := by
      have : s₂ = ({ s₂ with vm := (U.calling g mk a).vm } : State).setVm s₂.vm := rfl
      rw [e2] at this
      exact this
    obtain ⟨c₂, i₂, len₂, hc₂, hd₂, hf₂⟩ := hend
    have hW' : U.WarmedH s₂.vm := hW₂
    have hcc : c₂ = c := by
      have h1 : s₂.code? g.method = U.code? g.method := by
        rw [State.code?_eq, State.code?_eq, hW'.alike.method?]
      exact Option.some.inj (hc₂.symm.trans (h1.trans h.code))
    subst hcc
    have hlen : len₂ = len := by rw [hdg] at hd₂; cases hd₂; rfl
    subst hlen
    have hs₂ : s₂ = (({ U with heap := s₂.heap, slotsUsed := s₂.slotsUsed } : State).setVm s₂.vm).setTop { g with pc := g.pc + len₂, stack := v.toList ++ g.stack } := by
      refine e3.trans ?_
      rw [hf₂, State.calling_eq h.top, State.setFrames_setFrames, State.setTop_of_frames _ hr', hr]
      rfl
    have hsame : U.sameButNew ({ U with heap := s₂.heap, slotsUsed := s₂.slotsUsed } : State) L mc ms := by
      refine ⟨?_, q2, q3, q4, q5, q6⟩
      obtain ⟨t, ht, -⟩ := State.frames_cons hr
      show ({ U with heap := s₂.heap, slotsUsed := s₂.slotsUsed } : State) = { U.setFrames U.frames with heap := s₂.heap, slotsUsed := s₂.slotsUsed }
      rw [State.setFrames_self ht]
    subst hg
    refine Or.inl ⟨v, ⟨(({ U with heap := s₂.heap, slotsUsed := s₂.slotsUsed } : State).setVm s₂.vm), Ls ++ L, c0 + mc, s0 + ms⟩,
      ⟨X.admits, X.cas, X.clock, X.frames, X.room, X.hears, X.method, X.code, (X.here.setHeapUsed s₂.heap s₂.slotsUsed).setVm hW'.alike, X.tail, State.WarmedH.trans X.warmed hW', X.limits, X.bytes, X.same.trans (hsame.setVm s.vm)⟩,
      ⟨g, mk, s₂, L, rfl, rfl, hqc, rfl, hL, rfl, rfl⟩, ?_⟩
    show Steps p.tables e below _ ((({ U with heap := s₂.heap, slotsUsed := s₂.slotsUsed } : State).setVm s₂.vm).setTop { g with pc := g.pc + len₂, stack := v.toList ++ g.stack })
    rw [← hs₂]
    exact hsteps
  · obtain ⟨e2, q2, q3, q4, q5, q6⟩ := id hsm
    have e3 : s₂ = ({ (U.calling g mk a).setFrames s₂.frames with heap := s₂.heap, slotsUsed := s₂.slotsUsed } : State).setVm s₂.vm := by
      have : s₂ = ({ s₂ with vm := (U.calling g mk a).vm } : State).setVm s₂.vm := rfl
      rw [e2] at this
      exact this
    have hf₂ : s₂.frames = .throwing q :: .java g :: U.frames.tail := hend
    have hW' : U.WarmedH s₂.vm := hW₂
    have hs₂ : s₂ = ((({ U with heap := s₂.heap, slotsUsed := s₂.slotsUsed } : State).setVm s₂.vm).setTop g).pushFrame (.throwing q) := by
      refine e3.trans ?_
      rw [hf₂, State.calling_eq h.top, State.setFrames_setFrames, State.pushFrame, State.frames_setTop _ hr', State.setTop_of_frames _ hr', State.setFrames_setFrames, hr]
      rfl
    have hsame : U.sameButNew ({ U with heap := s₂.heap, slotsUsed := s₂.slotsUsed } : State) L mc ms := by
      refine ⟨?_, q2, q3, q4, q5, q6⟩
      obtain ⟨t, ht, -⟩ := State.frames_cons hr
      show ({ U with heap := s₂.heap, slotsUsed := s₂.slotsUsed } : State) = { U.setFrames U.frames with heap := s₂.heap, slotsUsed := s₂.slotsUsed }
      rw [State.setFrames_self ht]
    subst hg
    refine Or.inr ⟨q, ⟨(({ U with heap := s₂.heap, slotsUsed := s₂.slotsUsed } : State).setVm s₂.vm), Ls ++ L, c0 + mc, s0 + ms⟩,
      ⟨X.admits, X.cas, X.clock, X.frames, X.room, X.hears, X.method, X.code, (X.here.setHeapUsed s₂.heap s₂.slotsUsed).setVm hW'.alike, X.tail, State.WarmedH.trans X.warmed hW', X.limits, X.bytes, X.same.trans (hsame.setVm s.vm)⟩,
      ⟨g, mk, s₂, L, E, ce, rfl, rfl, hx, hce, hcv, hcl, rfl, hL, rfl, rfl⟩, ?_⟩
    show Steps p.tables e below _ (((({ U with heap := s₂.heap, slotsUsed := s₂.slotsUsed } : State).setVm s₂.vm).setTop g).pushFrame (.throwing q))
    rw [← hs₂]
    exact hsteps
end
variable {p : Program} {l : Launch} {e : Env} {R : Room} {s : State} {m : MethodId} {args : Array Value} {below : List Frame} {meth : Method} {c : Code} {T : State} {H : Heap} {locs : List Loc} {cells slots : Nat}
theorem vx_callVX (X : Stand p l e R s m args below meth c T locs cells slots) (hexec : p.tables.exec = Jvm.exec) {own C : String} {index : Nat} {y : MethodName} {bytes : ByteArray} {maxL : Nat} {ret : Option FieldType} {hh : List (Nat × Nat × Nat × Nat)}
    (hown : s.vm.findClass own = some m.cls) (hlink : (Cond.methodLink own index y).before args s = true) (hinst : (Cond.instanceMethod y).before args s = true) (hsel : (Cond.selects C y y).before args s = true)
    (hcode : (Cond.codeWith y bytes maxL ret hh).before args s = true) (hy : y.cls ≠ "java/lang/invoke/MethodHandle" ∧ y.cls ≠ "java/lang/invoke/VarHandle")
    {W9 : Nat} {Pre : Pt → Array Value → Prop} {Post : Pt → Array Value → Option Value → Pt → Prop} {PostX : Pt → Array Value → Addr → Pt → Prop} (hK : vx_Back l R p e below s args y 3 W9 Pre Post PostX)
    {b : Addr} {cellB : Cell} (hcell : T.heap[b]? = some cellB) (hobj : cellB.vm.isStatics = false) (hcls : s.vm.findClass C = some cellB.cls)
    {g : JFrame} (hg : g.method = m) (hsize : g.locals.size = c.maxLocals) {argsL rest : List Value} (hlen : ∀ sig, parseMethodDescriptor y.desc = some sig → argsL.length = sig.parameters.length)
    (hstack : g.stack = argsL.reverse ++ .ref b :: rest) (hW : 2 * g.monitorRoom + (rest.map fun v => v.category).sum ≤ W9) (hdg : decode c.code g.pc = .ok (.invokevirtual index, 3))
    (hpre : ∀ vm₁, s.WarmedH vm₁ → Pre ⟨T.setVm vm₁, locs, cells, slots⟩ (Value.ref b :: argsL).toArray) :
    (∃ (v : Option Value) (vm₁ : Vm) (B : Pt), s.WarmedH vm₁ ∧ Stand p l e R s m args below meth c B.U B.locs B.cells B.slots ∧ Post ⟨T.setVm vm₁, locs, cells, slots⟩ (Value.ref b :: argsL).toArray v B ∧
      ∀ target, Steps p.tables e below (B.U.setTop { g with pc := g.pc + 3, stack := v.toList ++ rest }) target → Steps p.tables e below (T.setTop g) target) ∨
    (∃ (q : Addr) (vm₁ : Vm) (B : Pt), s.WarmedH vm₁ ∧ Stand p l e R s m args below meth c B.U B.locs B.cells B.slots ∧ PostX ⟨T.setVm vm₁, locs, cells, slots⟩ (Value.ref b :: argsL).toArray q B ∧
      Steps p.tables e below (T.setTop g) ((B.U.setTop { g with stack := rest }).pushFrame (.throwing q))) := by
  obtain ⟨mk, methM, hnamed, hmethM, hstM, habM⟩ := Cond.instanceMethod_spec hinst
  obtain ⟨m8, methM', cM, hn8, hmethM', -, -, -, -, -, -, hsigM⟩ := Cond.codeWith_spec hcode
  cases Option.some.inj (hn8.symm.trans hnamed)
  cases hmethM.symm.trans hmethM'
  obtain ⟨c2, r2, m2, q1, q2, q3, q4, kP, hkP, hkPi⟩ := Cond.selects_spec hsel
  cases hcls.symm.trans q1
  cases (State.methodFound?_of_named hnamed hy).symm.trans q2
  cases hnamed.symm.trans q3
  have hselP : selectMethod e.platform s.vm cellB.cls mk = .method mk := by rw [Launch.admits_selectMethod X.admits]; exact q4
  obtain ⟨vm₁, X₁, hstep₁⟩ := X.invokevirtual hexec hown hlink hnamed hmethM hstM hkP hkPi hy (a := b) (cell := cellB) hcell
    (fun z h => by rw [h] at hobj; cases hobj) hselP hmethM habM hkP hkPi (g := g) hg (argsL := argsL) (rest := rest) (hlen _ hsigM) hstack hdg
  rcases hK m meth c ⟨T.setVm vm₁, locs, cells, slots⟩ { g with stack := rest } (.invokevirtual index) mk (Value.ref b :: argsL).toArray X₁ hg hsize hdg hW (X₁.named hnamed) (hpre vm₁ X₁.warmed) with ⟨v, B, X', hpost, hsteps⟩ | ⟨q, B, X', hpost, hsteps⟩
  · exact Or.inl ⟨v, vm₁, B, X₁.warmed, X', hpost, fun target h => hstep₁ _ fun acts => by rw [doInvoke_state]; exact hsteps.trans h⟩
  · exact Or.inr ⟨q, vm₁, B, X₁.warmed, X', hpost, hstep₁ _ fun acts => by rw [doInvoke_state]; exact hsteps⟩
theorem vx_callSX (X : Stand p l e R s m args below meth c T locs cells slots) (hexec : p.tables.exec = Jvm.exec) {own : String} {index : Nat} {y : MethodName} {bytes : ByteArray} {maxL : Nat} {ret : Option FieldType} {hh : List (Nat × Nat × Nat × Nat)}
    (hown : s.vm.findClass own = some m.cls) (hlink : (Cond.methodLink own index y).before args s = true) (hstat : (Cond.static y).before args s = true) (hinit : (Cond.initialized y.cls).before args s = true)
    (hcode : (Cond.codeWith y bytes maxL ret hh).before args s = true) (hy : y.cls ≠ "java/lang/invoke/MethodHandle" ∧ y.cls ≠ "java/lang/invoke/VarHandle")
    {W9 : Nat} {Pre : Pt → Array Value → Prop} {Post : Pt → Array Value → Option Value → Pt → Prop} {PostX : Pt → Array Value → Addr → Pt → Prop} (hK : vx_Back l R p e below s args y 3 W9 Pre Post PostX)
    {g : JFrame} (hg : g.method = m) (hsize : g.locals.size = c.maxLocals) {argsL rest : List Value} (hlen : ∀ sig, parseMethodDescriptor y.desc = some sig → argsL.length = sig.parameters.length)
    (hstack : g.stack = argsL.reverse ++ rest) (hW : 2 * g.monitorRoom + (rest.map fun v => v.category).sum ≤ W9) (hdg : decode c.code g.pc = .ok (.invokestatic index, 3))
    (hpre : ∀ vm₁, s.WarmedH vm₁ → Pre ⟨T.setVm vm₁, locs, cells, slots⟩ argsL.toArray) :
    (∃ (v : Option Value) (vm₁ : Vm) (B : Pt), s.WarmedH vm₁ ∧ Stand p l e R s m args below meth c B.U B.locs B.cells B.slots ∧ Post ⟨T.setVm vm₁, locs, cells, slots⟩ argsL.toArray v B ∧
      ∀ target, Steps p.tables e below (B.U.setTop { g with pc := g.pc + 3, stack := v.toList ++ rest }) target → Steps p.tables e below (T.setTop g) target) ∨
    (∃ (q : Addr) (vm₁ : Vm) (B : Pt), s.WarmedH vm₁ ∧ Stand p l e R s m args below meth c B.U B.locs B.cells B.slots ∧ PostX ⟨T.setVm vm₁, locs, cells, slots⟩ argsL.toArray q B ∧
      Steps p.tables e below (T.setTop g) ((B.U.setTop { g with stack := rest }).pushFrame (.throwing q))) := by
  obtain ⟨mk, methM, cM, hnamed, hmethM, -, -, -, -, -, -, hsigM⟩ := Cond.codeWith_spec hcode
  have hstatic : methM.isStatic = true := Cond.static_spec hnamed hmethM hstat
  obtain ⟨kP, hkP, -⟩ := className_of_methodNamed hnamed
  have hinitP : kP.init = .initialized := Cond.initialized_spec (findClass_of_methodNamed hnamed) hkP hinit
  obtain ⟨vm₁, X₁, hstep₁⟩ := X.invokestatic hexec hown hlink hnamed hmethM hstatic hkP hinitP hy (g := g) hg (argsL := argsL) (rest := rest) (hlen _ hsigM) hstack hdg
  rcases hK m meth c ⟨T.setVm vm₁, locs, cells, slots⟩ { g with stack := rest } (.invokestatic index) mk argsL.toArray X₁ hg hsize hdg hW (X₁.named hnamed) (hpre vm₁ X₁.warmed) with ⟨v, B, X', hpost, hsteps⟩ | ⟨q, B, X', hpost, hsteps⟩
  · exact Or.inl ⟨v, vm₁, B, X₁.warmed, X', hpost, fun target h => hstep₁ _ fun acts => by rw [doInvoke_state]; exact hsteps.trans h⟩
  · exact Or.inr ⟨q, vm₁, B, X₁.warmed, X', hpost, hstep₁ _ fun acts => by rw [doInvoke_state]; exact hsteps⟩
theorem vx_callVW (X : Stand p l e R s m args below meth c T locs cells slots) (hexec : p.tables.exec = Jvm.exec) {own C : String} {index : Nat} {y : MethodName} {bytes : ByteArray} {maxL : Nat} {ret : Option FieldType} {hh : List (Nat × Nat × Nat × Nat)}
    (hown : s.vm.findClass own = some m.cls) (hlink : (Cond.methodLink own index y).before args s = true) (hinst : (Cond.instanceMethod y).before args s = true) (hsel : (Cond.selects C y y).before args s = true)
    (hcode : (Cond.codeWith y bytes maxL ret hh).before args s = true) (hy : y.cls ≠ "java/lang/invoke/MethodHandle" ∧ y.cls ≠ "java/lang/invoke/VarHandle")
    {W9 : Nat} {Pre : Pt → Array Value → Prop} {Post : Pt → Array Value → Option Value → Pt → Prop} (hK : Back l R p e below s args y 3 W9 Pre Post)
    {b : Addr} {cellB : Cell} (hcell : T.heap[b]? = some cellB) (hobj : cellB.vm.isStatics = false) (hcls : s.vm.findClass C = some cellB.cls)
    {g : JFrame} (hg : g.method = m) (hsize : g.locals.size = c.maxLocals) {argsL rest : List Value} (hlen : ∀ sig, parseMethodDescriptor y.desc = some sig → argsL.length = sig.parameters.length)
    (hstack : g.stack = argsL.reverse ++ .ref b :: rest) (hW : 2 * g.monitorRoom + (rest.map fun v => v.category).sum ≤ W9) (hdg : decode c.code g.pc = .ok (.invokevirtual index, 3))
    (hpre : ∀ vm₁, s.WarmedH vm₁ → Pre ⟨T.setVm vm₁, locs, cells, slots⟩ (Value.ref b :: argsL).toArray) :
    ∃ (v : Option Value) (vm₁ : Vm) (B : Pt), s.WarmedH vm₁ ∧ Stand p l e R s m args below meth c B.U B.locs B.cells B.slots ∧ Post ⟨T.setVm vm₁, locs, cells, slots⟩ (Value.ref b :: argsL).toArray v B ∧
      ∀ target, Steps p.tables e below (B.U.setTop { g with pc := g.pc + 3, stack := v.toList ++ rest }) target → Steps p.tables e below (T.setTop g) target := by
  obtain ⟨mk, methM, hnamed, hmethM, hstM, habM⟩ := Cond.instanceMethod_spec hinst
  obtain ⟨m8, methM', cM, hn8, hmethM', -, -, -, -, -, -, hsigM⟩ := Cond.codeWith_spec hcode
  cases Option.some.inj (hn8.symm.trans hnamed)
  cases hmethM.symm.trans hmethM'
  obtain ⟨c2, r2, m2, q1, q2, q3, q4, kP, hkP, hkPi⟩ := Cond.selects_spec hsel
  cases hcls.symm.trans q1
  cases (State.methodFound?_of_named hnamed hy).symm.trans q2
  cases hnamed.symm.trans q3
  have hselP : selectMethod e.platform s.vm cellB.cls mk = .method mk := by rw [Launch.admits_selectMethod X.admits]; exact q4
  obtain ⟨vm₁, X₁, hstep₁⟩ := X.invokevirtual hexec hown hlink hnamed hmethM hstM hkP hkPi hy (a := b) (cell := cellB) hcell
    (fun z h => by rw [h] at hobj; cases hobj) hselP hmethM habM hkP hkPi (g := g) hg (argsL := argsL) (rest := rest) (hlen _ hsigM) hstack hdg
  obtain ⟨v, B, X', hpost, hsteps⟩ := hK m meth c ⟨T.setVm vm₁, locs, cells, slots⟩ { g with stack := rest } (.invokevirtual index) mk (Value.ref b :: argsL).toArray X₁ hg hsize hdg hW (X₁.named hnamed) (hpre vm₁ X₁.warmed)
  exact ⟨v, vm₁, B, X₁.warmed, X', hpost, fun target h => hstep₁ _ fun acts => by rw [doInvoke_state]; exact hsteps.trans h⟩
abbrev vx_CVW (R : Room) (s : State) (args : Array Value) (own C : String) (index : Nat) (y : MethodName) (bytes : ByteArray) (maxL : Nat) (ret : Option FieldType) (hh : List (Nat × Nat × Nat × Nat)) (ws : List Cond) (rm : Room) (mc ms n : Nat) : Prop :=
  (rm.cells = mc ∧ rm.slots = ms ∧ rm.frames + 1 ≤ R.frames ∧ 8 + (maxL + 11) + rm.locals ≤ R.locals ∧ (∀ w ∈ ws, ∀ (a' : Array Value) (U : State), s.WarmedH U.vm → w.before a' U = true) ∧ Cond.codeWith y bytes maxL ret hh ∈ ws) ∧
  (Cond.codeWith y bytes maxL ret hh).before args s = true ∧ (Cond.initialized y.cls).before args s = true ∧ (y.cls ≠ "java/lang/invoke/MethodHandle" ∧ y.cls ≠ "java/lang/invoke/VarHandle") ∧
  (∀ sig, parseMethodDescriptor y.desc = some sig → n = sig.parameters.length) ∧ (Cond.methodLink own index y).before args s = true ∧ (Cond.instanceMethod y).before args s = true ∧ (Cond.selects C y y).before args s = true
theorem vx_cwVW {own C : String} {index maxL mc ms : Nat} {y : MethodName} {bytes : ByteArray} {ret : Option FieldType} {hh : List (Nat × Nat × Nat × Nat)} {Ts ws ws' : List Cond} {rm : Room} (n : Nat) (ht : ∀ w ∈ Ts, w.before args s = true) (hT : GoodIn Ts (wsV own index C y ws)) (hw : ws = Cond.codeWith y bytes maxL ret hh :: ws') (hrc : rm.cells = mc) (hrs : rm.slots = ms)
    (hd : y.cls = C ∧ y.cls ≠ "java/lang/invoke/MethodHandle" ∧ y.cls ≠ "java/lang/invoke/VarHandle" ∧ (parseMethodDescriptor y.desc).map (fun d => d.parameters.length) = some n) (hR : rm.frames + 1 ≤ R.frames ∧ 8 + (maxL + 11) + rm.locals ≤ R.locals) :
    vx_CVW R s args own C index y bytes maxL ret hh ws rm mc ms n := by
  obtain ⟨hC, hd⟩ := hd
  subst hC
  have ok : ∀ w ∈ wsV own index y.cls y ws, w.before args s = true := fun w h => ht w (hT w h).1
  have hG : GoodIn Ts ws := fun w h => hT w (by unfold wsV; exact List.mem_append_right _ h)
  have hc : Cond.codeWith y bytes maxL ret hh ∈ ws := by rw [hw]; exact List.mem_cons_self
  refine ⟨⟨hrc, hrs, hR.1, hR.2, pay_in ht hG, hc⟩, ht _ (hG _ hc).1, ok _ (by simp [wsV]), ⟨hd.1, hd.2.1⟩, fun sig h => ?_, ok _ (by simp [wsV]), ok _ (by simp [wsV]), ok _ (by simp [wsV])⟩
  have h2 := hd.2.2
  rw [h] at h2
  exact (Option.some.inj h2).symm
theorem vx_runVW {y : MethodName} {bytes cc : ByteArray} {maxL nL mc ms n index : Nat} {ret : Option FieldType} {hh : List (Nat × Nat × Nat × Nat)} {ws : List Cond} {rm : Room} {Pc : Array Value → State → Prop} {Qc : Array Value → State → Outcome → State → Prop} {free : Addr → Prop} {Ts : List Cond} {own C : String} {b : Addr} {As rest : List Value} {g : JFrame}
    (S : CallFix p m c cc nL s args Ts own) (hM : Met l y ws rm Pc Qc mc ms free) (cw : vx_CVW R s args own C index y bytes maxL ret hh ws rm mc ms n) (hp : PreV s H C b Pc As)
    (hg : g.method = m) (hn : As.length = n) (hsize : g.locals.size = nL) (hstack : g.stack = As.reverse ++ .ref b :: rest) (hW : 2 * g.monitorRoom + (rest.map fun v => v.category).sum ≤ 8) (hdg : decode cc g.pc = .ok (.invokevirtual index, 3)) (hf : cells + mc ≤ R.cells ∧ slots + ms ≤ R.slots) :
    va_Run p l e R s m args below meth c H locs cells slots mc ms g rest (Qc (Value.ref b :: As).toArray) free := by
  obtain ⟨⟨hrc, hrs, hfr, hlo, hws, hcw⟩, hcode, hini, hy, hlen, hl, hin, hse⟩ := cw
  have hK : Back l R p e below s args y 3 8 (PreOf R mc ms Pc) (PostOf Qc mc ms free) := va_backW (hh := hh) (bytes := bytes) (maxL := maxL) (ret := ret) hM hp.1 hrc hrs hfr hlo hws hcw (fun a' U hW => word_at hW (Or.inl (by first | rfl | simp [Cond.onTables, Cond.keeps, Cond.steady])) hini)
  obtain ⟨hx, hb, hml, ho, -⟩ := S
  obtain ⟨-, ⟨cellB, hcB, hoB, hclB⟩, hPc⟩ := hp
  intro T hT X
  obtain ⟨v, vm₁, ⟨U', l2, c2, s2⟩, hW₁, X', ⟨g', mk, t, L, e1, e2, hq, h1, hL, h2, h3⟩, st⟩ := vx_callVW X hx (C := C) (hh := hh) (bytes := bytes) (maxL := maxL) (ret := ret) ho hl hin hse hcode hy hK (by rw [hT]; exact hcB) hoB hclB hg (hsize.trans hml.symm) (argsL := As) (rest := rest) (fun sig h => hn.trans (hlen sig h)) hstack hW (by rw [hb]; exact hdg)
    (fun vm₁ hW₁ => ⟨hf.1, hf.2, hPc (T.setVm vm₁) hT hW₁⟩)
  dsimp only [Pt.U, Pt.locs, Pt.cells, Pt.slots] at X' e1 e2 h1 h2 h3 st
  subst h1; subst h2; subst h3
  exact ⟨v, (T.setVm vm₁).calling g' mk (Value.ref b :: As).toArray, t, U', L, hT, X', hL, e1, e2, hq, st⟩
section
variable {y : MethodName} {bytes cc : ByteArray} {maxL nL mc ms n index : Nat} {ret : Option FieldType} {ws : List Cond} {rm : Room} {Pc : Array Value → State → Prop} {Qc : Array Value → State → Outcome → State → Prop} {XC : String → State → State → Prop} {free : Addr → Prop} {Ts : List Cond} {own C : String} {b : Addr} {As rest : List Value} {g : JFrame}
theorem vx_runVX {hh : List (Nat × Nat × Nat × Nat)} (S : CallFix p m c cc nL s args Ts own) (hM : vx_Met l y ws rm Pc Qc XC mc ms free) (cw : vx_CVW R s args own C index y bytes maxL ret hh ws rm mc ms n) (hp : PreV s H C b Pc As)
    (hg : g.method = m) (hn : As.length = n) (hsize : g.locals.size = nL) (hstack : g.stack = As.reverse ++ .ref b :: rest) (hW : 2 * g.monitorRoom + (rest.map fun v => v.category).sum ≤ 8) (hdg : decode cc g.pc = .ok (.invokevirtual index, 3)) (hf : cells + mc ≤ R.cells ∧ slots + ms ≤ R.slots) :
    vx_Run p l e R s m args below meth c H locs cells slots mc ms g rest (Qc (Value.ref b :: As).toArray) XC free := by
  obtain ⟨⟨hrc, hrs, hfr, hlo, hws, hcw⟩, hcode, hini, hy, hlen, hl, hin, hse⟩ := cw
  have hK : vx_Back l R p e below s args y 3 8 (PreOf R mc ms Pc) (PostOf Qc mc ms free) (vx_Post XC mc ms free) := vx_backW (hh := hh) (bytes := bytes) (maxL := maxL) (ret := ret) hM hp.1 hrc hrs hfr hlo hws hcw (fun a' U hW => word_at hW (Or.inl (by first | rfl | simp [Cond.onTables, Cond.keeps, Cond.steady])) hini)
  obtain ⟨hx, hb, hml, ho, -⟩ := S
  obtain ⟨-, ⟨cellB, hcB, hoB, hclB⟩, hPc⟩ := hp
  intro T hT X
  rcases vx_callVX X hx (C := C) (hh := hh) (bytes := bytes) (maxL := maxL) (ret := ret) ho hl hin hse hcode hy hK (by rw [hT]; exact hcB) hoB hclB hg (hsize.trans hml.symm) (argsL := As) (rest := rest) (fun sig h => hn.trans (hlen sig h)) hstack hW (by rw [hb]; exact hdg)
    (fun vm₁ hW₁ => ⟨hf.1, hf.2, hPc (T.setVm vm₁) hT hW₁⟩) with ⟨v, vm₁, ⟨U', l2, c2, s2⟩, hW₁, X', ⟨g', mk, t, L, e1, e2, hq, h1, hL, h2, h3⟩, st⟩ | ⟨q, vm₁, ⟨U', l2, c2, s2⟩, hW₁, X', ⟨g', mk, t, L, E, ce, e1, e2, hq, hce, hcv, hcl, h1, hL, h2, h3⟩, st⟩
  · dsimp only [Pt.U, Pt.locs, Pt.cells, Pt.slots] at X' e1 e2 h1 h2 h3 st
    subst h1; subst h2; subst h3
    exact Or.inl ⟨v, (T.setVm vm₁).calling g' mk (Value.ref b :: As).toArray, t, U', L, hT, X', hL, e1, e2, hq, st⟩
  · dsimp only [Pt.U, Pt.locs, Pt.cells, Pt.slots] at X' e1 e2 h1 h2 h3 st hcl
    subst h1; subst h2; subst h3
    exact Or.inr ⟨q, (T.setVm vm₁).calling g' mk (Value.ref b :: As).toArray, t, U', L, E, ce, hT, X', hL, e1, e2, hq, hce, hcv, vx_cls hW₁ hcl, st⟩
theorem vx_runSX {hh : List (Nat × Nat × Nat × Nat)} (S : CallFix p m c cc nL s args Ts own) (hM : vx_Met l y ws rm Pc Qc XC mc ms free) (cw : vx_CSW R s args own index y bytes maxL ret hh ws rm mc ms n) (hp : PreS s H Pc As)
    (hg : g.method = m) (hn : As.length = n) (hsize : g.locals.size = nL) (hstack : g.stack = As.reverse ++ rest) (hW : 2 * g.monitorRoom + (rest.map fun v => v.category).sum ≤ 8) (hdg : decode cc g.pc = .ok (.invokestatic index, 3)) (hf : cells + mc ≤ R.cells ∧ slots + ms ≤ R.slots) :
    vx_Run p l e R s m args below meth c H locs cells slots mc ms g rest (Qc As.toArray) XC free := by
  obtain ⟨⟨hrc, hrs, hfr, hlo, hws, hcw⟩, hcode, hini, hy, hlen, hl, hstt⟩ := cw
  have hK : vx_Back l R p e below s args y 3 8 (PreOf R mc ms Pc) (PostOf Qc mc ms free) (vx_Post XC mc ms free) := vx_backW (hh := hh) (bytes := bytes) (maxL := maxL) (ret := ret) hM hp.1 hrc hrs hfr hlo hws hcw (fun a' U hW => word_at hW (Or.inl (by first | rfl | simp [Cond.onTables, Cond.keeps, Cond.steady])) hini)
  obtain ⟨hx, hb, hml, ho, -⟩ := S
  intro T hT X
  rcases vx_callSX X hx (hh := hh) (bytes := bytes) (maxL := maxL) (ret := ret) ho hl hstt hini hcode hy hK hg (hsize.trans hml.symm) (argsL := As) (rest := rest) (fun sig h => hn.trans (hlen sig h)) hstack hW (by rw [hb]; exact hdg)
    (fun vm₁ hW₁ => ⟨hf.1, hf.2, hp.2 (T.setVm vm₁) hT hW₁⟩) with ⟨v, vm₁, ⟨U', l2, c2, s2⟩, hW₁, X', ⟨g', mk, t, L, e1, e2, hq, h1, hL, h2, h3⟩, st⟩ | ⟨q, vm₁, ⟨U', l2, c2, s2⟩, hW₁, X', ⟨g', mk, t, L, E, ce, e1, e2, hq, hce, hcv, hcl, h1, hL, h2, h3⟩, st⟩
  · dsimp only [Pt.U, Pt.locs, Pt.cells, Pt.slots] at X' e1 e2 h1 h2 h3 st
    subst h1; subst h2; subst h3
    exact Or.inl ⟨v, (T.setVm vm₁).calling g' mk As.toArray, t, U', L, hT, X', hL, e1, e2, hq, st⟩
  · dsimp only [Pt.U, Pt.locs, Pt.cells, Pt.slots] at X' e1 e2 h1 h2 h3 st hcl
    subst h1; subst h2; subst h3
    exact Or.inr ⟨q, (T.setVm vm₁).calling g' mk As.toArray, t, U', L, E, ce, hT, X', hL, e1, e2, hq, hce, hcv, vx_cls hW₁ hcl, st⟩
end
end VXH
theorem vx_ofWH {l : Launch} {y : MethodName} {ws ws' : List Cond} {rm : Room} {Pc : Array Value → State → Prop} {Qc : Array Value → State → Outcome → State → Prop} {XC : String → State → State → Prop} {mc ms : Nat} {free : Addr → Prop} {cc : ByteArray} {maxL : Nat} {ret : Option FieldType} {hh : List (Nat × Nat × Nat × Nat)}
    (hy : plainName y.cls = true) (hw : ws = Cond.codeWith y cc maxL ret hh :: ws')
    (body : ∀ p e s m args below meth c s₁, BodyLoose p l y (headSpec ws rm) cc maxL ret e s m args below meth c s₁ → c.maxLocals = maxL → Pc args s →
      W p l e (headSpec ws rm).room s m args below meth c s.heap [] 0 0 (vx_MQ below Qc XC args s mc ms free) (entryFrame m args maxL)) : vx_Met l y ws rm Pc Qc XC mc ms free := by
  refine MetFree.of_bodyS (code := cc) (maxLocals := maxL) (ret := ret) hy ?_ ?_
  · intro args s m h hn
    obtain ⟨m9, meth, c, hn9, h1, h2, h3, h4, -, h5, h6, -⟩ := Cond.codeWith_spec (atoms_spec (ws := ws) h _ (by rw [hw]; exact List.mem_cons_self))
    cases hn.symm.trans hn9
    exact ⟨meth, c, h1, h2, h3, h4, h5, h6⟩
  · intro p e s m args below meth c s₁ B hml hP _
    have hh0 : s₁.heap = s.heap := by rw [B.state]; rfl
    obtain ⟨t, a1, o, b1, b2, b3⟩ := body p e s m args below meth c s₁ B hml hP s₁ hh0 (Stand.of_body B)
    exact ⟨t, o, a1, b1, b2, b3⟩
/-! ===== END ===== -/
end
section
def RX0 : String := "TwinHashTables$Extendible"
def TX0 : u_T := fun k => match k with
  | 0 => ("TwinHashTables$Extendible", "store", "LTwinHashTables$Store;", true)
  | 1 => ("TwinHashTables$Extendible", "rows", "LTwinHashTables$Rows;", true)
  | 2 => ("TwinHashTables$Extendible", "localDepths", "[I", true)
  | 3 => ("TwinHashTables$Extendible", "depth", "I", false)
  | 4 => ("TwinHashTables$Extendible", "doublingCount", "I", false)
  | 5 => ("TwinHashTables$Extendible", "halvingCount", "I", false)
  | 6 => ("TwinHashTables$Extendible", "splitCount", "I", false)
  | _ => ("TwinHashTables$Extendible", "mergeCount", "I", false)
def tyX0 : Nat → FieldType := fun k => match k with
  | 0 => .object "TwinHashTables$Store"
  | 1 => .object "TwinHashTables$Rows"
  | 2 => .array .int
  | 3 => .int
  | 4 => .int
  | 5 => .int
  | 6 => .int
  | _ => .int
theorem nmX0 : ∀ a, a < 8 → ∀ b, b < 8 → a ≠ b → (TX0 a).2.1 ≠ (TX0 b).2.1 := by decide +kernel
theorem tyX0_ok : ∀ k, k < 8 → parseFieldDescriptor (TX0 k).2.2.1 = some (tyX0 k) := by decide +kernel
abbrev cX0_init : ByteArray := prog_2_method_1_code
def yX0_init : MethodName := ⟨RX0, "<init>", "(LTwinHashTables$Store;)V"⟩
abbrev cX0_countSlots : ByteArray := prog_2_method_2_code
def yX0_countSlots : MethodName := ⟨RX0, "countSlots", "()I"⟩
abbrev cX0_countBuckets : ByteArray := prog_2_method_3_code
def yX0_countBuckets : MethodName := ⟨RX0, "countBuckets", "()I"⟩
abbrev cX0_depthAt : ByteArray := prog_2_method_4_code
def yX0_depthAt : MethodName := ⟨RX0, "depthAt", "(I)I"⟩
abbrev cX0_slotFor : ByteArray := prog_2_method_5_code
def yX0_slotFor : MethodName := ⟨RX0, "slotFor", "(I)I"⟩
abbrev cX0_rowAt : ByteArray := prog_2_method_6_code
def yX0_rowAt : MethodName := ⟨RX0, "rowAt", "(I)I"⟩
abbrev cX0_rowFor : ByteArray := prog_2_method_7_code
def yX0_rowFor : MethodName := ⟨RX0, "rowFor", "(I)I"⟩
abbrev cX0_find : ByteArray := prog_2_method_8_code
def yX0_find : MethodName := ⟨RX0, "find", "(I)I"⟩
abbrev cX0_buddyAt : ByteArray := prog_2_method_9_code
def yX0_buddyAt : MethodName := ⟨RX0, "buddyAt", "(I)I"⟩
abbrev cX0_insert : ByteArray := prog_2_method_10_code
def yX0_insert : MethodName := ⟨RX0, "insert", "(I)V"⟩
abbrev cX0_delete : ByteArray := prog_2_method_11_code
def yX0_delete : MethodName := ⟨RX0, "delete", "(I)V"⟩
abbrev cX0_reset : ByteArray := prog_2_method_12_code
def yX0_reset : MethodName := ⟨RX0, "reset", "()V"⟩
abbrev cX0_splitBucket : ByteArray := prog_2_method_13_code
def yX0_splitBucket : MethodName := ⟨RX0, "splitBucket", "(II)V"⟩
abbrev cX0_canMerge : ByteArray := prog_2_method_14_code
def yX0_canMerge : MethodName := ⟨RX0, "canMerge", "(I)Z"⟩
abbrev cX0_mergeBuckets : ByteArray := prog_2_method_15_code
def yX0_mergeBuckets : MethodName := ⟨RX0, "mergeBuckets", "(II)V"⟩
abbrev cX0_doubleDirectory : ByteArray := prog_2_method_16_code
def yX0_doubleDirectory : MethodName := ⟨RX0, "doubleDirectory", "()V"⟩
abbrev cX0_halveWhilePossible : ByteArray := prog_2_method_17_code
def yX0_halveWhilePossible : MethodName := ⟨RX0, "halveWhilePossible", "()V"⟩
abbrev cX0_hasDepth : ByteArray := prog_2_method_18_code
def yX0_hasDepth : MethodName := ⟨RX0, "hasDepth", "(I)Z"⟩
abbrev cX0_setDepths : ByteArray := prog_2_method_19_code
def yX0_setDepths : MethodName := ⟨RX0, "setDepths", "(III)V"⟩
abbrev cX0_setDepth : ByteArray := prog_2_method_20_code
def yX0_setDepth : MethodName := ⟨RX0, "setDepth", "(II)V"⟩
def RX1 : String := "TwinHashTables$Linear"
def TX1 : u_T := fun k => match k with
  | 0 => ("TwinHashTables$Linear", "store", "LTwinHashTables$Store;", true)
  | 1 => ("TwinHashTables$Linear", "rows", "LTwinHashTables$Rows;", true)
  | 2 => ("TwinHashTables$Linear", "level", "I", false)
  | 3 => ("TwinHashTables$Linear", "pointer", "I", false)
  | 4 => ("TwinHashTables$Linear", "lowLoad", "I", false)
  | 5 => ("TwinHashTables$Linear", "highLoad", "I", false)
  | _ => ("TwinHashTables$Linear", "splitBalance", "I", false)
def tyX1 : Nat → FieldType := fun k => match k with
  | 0 => .object "TwinHashTables$Store"
  | 1 => .object "TwinHashTables$Rows"
  | 2 => .int
  | 3 => .int
  | 4 => .int
  | 5 => .int
  | _ => .int
theorem nmX1 : ∀ a, a < 7 → ∀ b, b < 7 → a ≠ b → (TX1 a).2.1 ≠ (TX1 b).2.1 := by decide +kernel
theorem tyX1_ok : ∀ k, k < 7 → parseFieldDescriptor (TX1 k).2.2.1 = some (tyX1 k) := by decide +kernel
abbrev cX1_init : ByteArray := prog_3_method_1_code
def yX1_init : MethodName := ⟨RX1, "<init>", "(LTwinHashTables$Store;)V"⟩
abbrev cX1_countBuckets : ByteArray := prog_3_method_2_code
def yX1_countBuckets : MethodName := ⟨RX1, "countBuckets", "()I"⟩
abbrev cX1_rowFor : ByteArray := prog_3_method_3_code
def yX1_rowFor : MethodName := ⟨RX1, "rowFor", "(I)I"⟩
abbrev cX1_insert : ByteArray := prog_3_method_5_code
def yX1_insert : MethodName := ⟨RX1, "insert", "(I)V"⟩
abbrev cX1_delete : ByteArray := prog_3_method_6_code
def yX1_delete : MethodName := ⟨RX1, "delete", "(I)V"⟩
abbrev cX1_reset : ByteArray := prog_3_method_7_code
def yX1_reset : MethodName := ⟨RX1, "reset", "()V"⟩
abbrev cX1_fullAt : ByteArray := prog_3_method_8_code
def yX1_fullAt : MethodName := ⟨RX1, "fullAt", "(II)I"⟩
abbrev cX1_splitNext : ByteArray := prog_3_method_9_code
def yX1_splitNext : MethodName := ⟨RX1, "splitNext", "()V"⟩
abbrev cX1_takeBackSplit : ByteArray := prog_3_method_10_code
def yX1_takeBackSplit : MethodName := ⟨RX1, "takeBackSplit", "()V"⟩
def RX2 : String := "TwinHashTables$Rows"
def TX2 : u_T := fun k => match k with
  | 0 => ("TwinHashTables$Rows", "store", "LTwinHashTables$Store;", true)
  | 1 => ("TwinHashTables$Rows", "first", "[I", true)
  | 2 => ("TwinHashTables$Rows", "last", "[I", true)
  | 3 => ("TwinHashTables$Rows", "counts", "[I", true)
  | _ => ("TwinHashTables$Rows", "next", "[I", true)
def tyX2 : Nat → FieldType := fun k => match k with
  | 0 => .object "TwinHashTables$Store"
  | 1 => .array .int
  | 2 => .array .int
  | 3 => .array .int
  | _ => .array .int
theorem nmX2 : ∀ a, a < 5 → ∀ b, b < 5 → a ≠ b → (TX2 a).2.1 ≠ (TX2 b).2.1 := by decide +kernel
theorem tyX2_ok : ∀ k, k < 5 → parseFieldDescriptor (TX2 k).2.2.1 = some (tyX2 k) := by decide +kernel
abbrev cX2_init : ByteArray := prog_4_method_1_code
def yX2_init : MethodName := ⟨RX2, "<init>", "(LTwinHashTables$Store;)V"⟩
abbrev cX2_count : ByteArray := prog_4_method_2_code
def yX2_count : MethodName := ⟨RX2, "count", "(I)I"⟩
abbrev cX2_entryAt : ByteArray := prog_4_method_3_code
def yX2_entryAt : MethodName := ⟨RX2, "entryAt", "(II)I"⟩
abbrev cX2_find : ByteArray := prog_4_method_4_code
def yX2_find : MethodName := ⟨RX2, "find", "(II)I"⟩
abbrev cX2_append : ByteArray := prog_4_method_5_code
def yX2_append : MethodName := ⟨RX2, "append", "(II)V"⟩
abbrev cX2_unlink : ByteArray := prog_4_method_6_code
def yX2_unlink : MethodName := ⟨RX2, "unlink", "(II)V"⟩
abbrev cX2_pour : ByteArray := prog_4_method_7_code
def yX2_pour : MethodName := ⟨RX2, "pour", "(II)V"⟩
abbrev cX2_deal : ByteArray := prog_4_method_8_code
def yX2_deal : MethodName := ⟨RX2, "deal", "(IIII)V"⟩
abbrev cX2_emptyAllRows : ByteArray := prog_4_method_9_code
def yX2_emptyAllRows : MethodName := ⟨RX2, "emptyAllRows", "()V"⟩
abbrev cX2_placeOf : ByteArray := prog_4_method_13_code
def yX2_placeOf : MethodName := ⟨RX2, "placeOf", "(II)I"⟩
abbrev cX2_entryBefore : ByteArray := prog_4_method_14_code
def yX2_entryBefore : MethodName := ⟨RX2, "entryBefore", "(II)I"⟩
abbrev cX2_firstOf : ByteArray := prog_4_method_15_code
def yX2_firstOf : MethodName := ⟨RX2, "firstOf", "(I)I"⟩
abbrev cX2_after : ByteArray := prog_4_method_16_code
def yX2_after : MethodName := ⟨RX2, "after", "(I)I"⟩
abbrev cX2_empty : ByteArray := prog_4_method_17_code
def yX2_empty : MethodName := ⟨RX2, "empty", "(I)V"⟩
def RX3 : String := "TwinHashTables$Store"
def TX3 : u_T := fun k => match k with
  | 0 => ("TwinHashTables$Store", "keys", "[I", true)
  | 1 => ("TwinHashTables$Store", "values", "[I", true)
  | 2 => ("TwinHashTables$Store", "order", "[I", true)
  | 3 => ("TwinHashTables$Store", "taken", "I", false)
  | _ => ("TwinHashTables$Store", "capacity", "I", false)
def tyX3 : Nat → FieldType := fun k => match k with
  | 0 => .array .int
  | 1 => .array .int
  | 2 => .array .int
  | 3 => .int
  | _ => .int
theorem nmX3 : ∀ a, a < 5 → ∀ b, b < 5 → a ≠ b → (TX3 a).2.1 ≠ (TX3 b).2.1 := by decide +kernel
theorem tyX3_ok : ∀ k, k < 5 → parseFieldDescriptor (TX3 k).2.2.1 = some (tyX3 k) := by decide +kernel
abbrev cX3_init : ByteArray := prog_5_method_1_code
def yX3_init : MethodName := ⟨RX3, "<init>", "()V"⟩
abbrev cX3_keyOf : ByteArray := prog_5_method_2_code
def yX3_keyOf : MethodName := ⟨RX3, "keyOf", "(I)I"⟩
abbrev cX3_valueOf : ByteArray := prog_5_method_3_code
def yX3_valueOf : MethodName := ⟨RX3, "valueOf", "(I)I"⟩
abbrev cX3_replaceValue : ByteArray := prog_5_method_4_code
def yX3_replaceValue : MethodName := ⟨RX3, "replaceValue", "(II)I"⟩
abbrev cX3_take : ByteArray := prog_5_method_5_code
def yX3_take : MethodName := ⟨RX3, "take", "(II)I"⟩
abbrev cX3_takeAgain : ByteArray := prog_5_method_6_code
def yX3_takeAgain : MethodName := ⟨RX3, "takeAgain", "()I"⟩
abbrev cX3_release : ByteArray := prog_5_method_7_code
def yX3_release : MethodName := ⟨RX3, "release", "(I)V"⟩
abbrev cX3_releaseAll : ByteArray := prog_5_method_8_code
def yX3_releaseAll : MethodName := ⟨RX3, "releaseAll", "()V"⟩
def RX4 : String := "TwinHashTables"
def TX4 : u_T := fun k => match k with
  | 0 => ("TwinHashTables", "store", "LTwinHashTables$Store;", true)
  | 1 => ("TwinHashTables", "extendible", "LTwinHashTables$Extendible;", true)
  | _ => ("TwinHashTables", "linear", "LTwinHashTables$Linear;", true)
def tyX4 : Nat → FieldType := fun k => match k with
  | 0 => .object "TwinHashTables$Store"
  | 1 => .object "TwinHashTables$Extendible"
  | _ => .object "TwinHashTables$Linear"
theorem nmX4 : ∀ a, a < 3 → ∀ b, b < 3 → a ≠ b → (TX4 a).2.1 ≠ (TX4 b).2.1 := by decide +kernel
theorem tyX4_ok : ∀ k, k < 3 → parseFieldDescriptor (TX4 k).2.2.1 = some (tyX4 k) := by decide +kernel
abbrev cX4_init : ByteArray := prog_1_method_1_code
def yX4_init : MethodName := ⟨RX4, "<init>", "()V"⟩
abbrev cX4_put : ByteArray := prog_1_method_2_code
def yX4_put : MethodName := ⟨RX4, "put", "(II)I"⟩
abbrev cX4_remove : ByteArray := prog_1_method_3_code
def yX4_remove : MethodName := ⟨RX4, "remove", "(I)I"⟩
abbrev cX4_rebuild : ByteArray := prog_1_method_8_code
def yX4_rebuild : MethodName := ⟨RX4, "rebuild", "(I)I"⟩
abbrev cX4_buckets : ByteArray := prog_1_method_12_code
def yX4_buckets : MethodName := ⟨RX4, "buckets", "()I"⟩
abbrev cX4_bucketSize : ByteArray := prog_1_method_14_code
def yX4_bucketSize : MethodName := ⟨RX4, "bucketSize", "(I)I"⟩
abbrev cX4_keyAt : ByteArray := prog_1_method_15_code
def yX4_keyAt : MethodName := ⟨RX4, "keyAt", "(II)I"⟩
abbrev cX4_slotAt : ByteArray := prog_1_method_24_code
def yX4_slotAt : MethodName := ⟨RX4, "slotAt", "(I)I"⟩
abbrev cX4_nextCursor : ByteArray := prog_1_method_25_code
def yX4_nextCursor : MethodName := ⟨RX4, "nextCursor", "(I)I"⟩
abbrev cX4_insertIntoBoth : ByteArray := prog_1_method_36_code
def yX4_insertIntoBoth : MethodName := ⟨RX4, "insertIntoBoth", "(I)V"⟩
abbrev cX4_emptyAll : ByteArray := prog_1_method_37_code
def yX4_emptyAll : MethodName := ⟨RX4, "emptyAll", "()V"⟩
abbrev cX4_keyOfRow : ByteArray := prog_1_method_39_code
def yX4_keyOfRow : MethodName := ⟨RX4, "keyOfRow", "(LTwinHashTables$Rows;II)I"⟩
abbrev cX4_checkSlot : ByteArray := prog_1_method_40_code
def yX4_checkSlot : MethodName := ⟨RX4, "checkSlot", "(I)V"⟩
abbrev cX4_checkKey : ByteArray := prog_1_method_41_code
def yX4_checkKey : MethodName := ⟨RX4, "checkKey", "(I)V"⟩
abbrev cX4_checkRange : ByteArray := prog_1_method_42_code
def yX4_checkRange : MethodName := ⟨RX4, "checkRange", "(III)V"⟩
abbrev cX4_checkIndex : ByteArray := prog_1_method_43_code
def yX4_checkIndex : MethodName := ⟨RX4, "checkIndex", "(II)V"⟩
abbrev cX4_hash : ByteArray := prog_1_method_44_code
def yX4_hash : MethodName := ⟨RX4, "hash", "(I)I"⟩
abbrev cX4_lowBits : ByteArray := prog_1_method_45_code
def yX4_lowBits : MethodName := ⟨RX4, "lowBits", "(II)I"⟩
abbrev cX4_bitAt : ByteArray := prog_1_method_46_code
def yX4_bitAt : MethodName := ⟨RX4, "bitAt", "(II)I"⟩
abbrev cX4_reverseBits : ByteArray := prog_1_method_47_code
def yX4_reverseBits : MethodName := ⟨RX4, "reverseBits", "(II)I"⟩
abbrev cX4_isRow : ByteArray := prog_1_method_48_code
def yX4_isRow : MethodName := ⟨RX4, "isRow", "(I)Z"⟩
abbrev cX4_isEntry : ByteArray := prog_1_method_49_code
def yX4_isEntry : MethodName := ⟨RX4, "isEntry", "(I)Z"⟩
def RX5 : String := "TwinHashTablesModel"
def TX5 : u_T := fun k => match k with
  | _ => ("", "", "", false)
def tyX5 : Nat → FieldType := fun k => match k with
  | _ => .int
theorem nmX5 : ∀ a, a < 0 → ∀ b, b < 0 → a ≠ b → (TX5 a).2.1 ≠ (TX5 b).2.1 := by decide +kernel
theorem tyX5_ok : ∀ k, k < 0 → parseFieldDescriptor (TX5 k).2.2.1 = some (tyX5 k) := by decide +kernel
def RJ0 : String := "java/lang/String"
def TJ0 : u_T := fun k => match k with
  | _ => ("", "", "", false)
def tyJ0 : Nat → FieldType := fun k => match k with
  | _ => .int
def RL : String := "TwinHashTablesLaw"
abbrev cL_drawn : ByteArray := method_2_code
def yL_drawn : MethodName := ⟨RL, "drawn", "([II)I"⟩
abbrev cL_put : ByteArray := method_3_code
def yL_put : MethodName := ⟨RL, "put", "(LTwinHashTables;I)I"⟩
abbrev cL_removed : ByteArray := method_4_code
def yL_removed : MethodName := ⟨RL, "removed", "(LTwinHashTables;I)I"⟩
abbrev cL_rebuilt : ByteArray := method_5_code
def yL_rebuilt : MethodName := ⟨RL, "rebuilt", "(LTwinHashTables;I)I"⟩
abbrev cL_slotAt : ByteArray := method_6_code
def yL_slotAt : MethodName := ⟨RL, "slotAt", "(LTwinHashTables;I)I"⟩
abbrev cL_next : ByteArray := method_7_code
def yL_next : MethodName := ⟨RL, "next", "(LTwinHashTables;I)I"⟩
abbrev cL_many : ByteArray := method_8_code
def yL_many : MethodName := ⟨RL, "many", "(LTwinHashTables;I)I"⟩
abbrev cL_keyAt : ByteArray := method_9_code
def yL_keyAt : MethodName := ⟨RL, "keyAt", "(LTwinHashTables;II)I"⟩
abbrev cL_seen : ByteArray := method_10_code
def yL_seen : MethodName := ⟨RL, "seen", "([I[II)V"⟩
abbrev cL_looks : ByteArray := method_11_code
def yL_looks : MethodName := ⟨RL, "looks", "(LTwinHashTables;[I[II)Z"⟩
abbrev cL_changes : ByteArray := method_12_code
def yL_changes : MethodName := ⟨RL, "changes", "(LTwinHashTables;[I[II)Z"⟩
abbrev cL_law : ByteArray := code
def yL_law : MethodName := ⟨RL, "law", "([I)Z"⟩
abbrev vwCl : List vw_C := [(RX0, TX0, 8), (RX1, TX1, 7), (RX2, TX2, 5), (RX3, TX3, 5), (RX4, TX4, 3)]
end
section
theorem ini_L : (Jvm.Cond.initialized "TwinHashTablesLaw") ∈ lw_tbl := List.mem_append_right _ (List.mem_append_left _ (List.mem_of_getElem? (i := 0) rfl))
theorem ini_X4 : (Jvm.Cond.initialized "TwinHashTables") ∈ lw_tbl := List.mem_append_right _ (List.mem_append_left _ (List.mem_of_getElem? (i := 1) rfl))
theorem ini_X3 : (Jvm.Cond.initialized "TwinHashTables$Store") ∈ lw_tbl := List.mem_append_right _ (List.mem_append_left _ (List.mem_of_getElem? (i := 2) rfl))
theorem ini_X0 : (Jvm.Cond.initialized "TwinHashTables$Extendible") ∈ lw_tbl := List.mem_append_right _ (List.mem_append_left _ (List.mem_of_getElem? (i := 3) rfl))
theorem ini_X2 : (Jvm.Cond.initialized "TwinHashTables$Rows") ∈ lw_tbl := List.mem_append_right _ (List.mem_append_left _ (List.mem_of_getElem? (i := 4) rfl))
theorem ini_X1 : (Jvm.Cond.initialized "TwinHashTables$Linear") ∈ lw_tbl := List.mem_append_right _ (List.mem_append_left _ (List.mem_of_getElem? (i := 5) rfl))
theorem ini_Throwable : (Jvm.Cond.initialized "java/lang/Throwable") ∈ lw_tbl := List.mem_append_right _ (List.mem_append_left _ (List.mem_of_getElem? (i := 6) rfl))
theorem ini_Exception : (Jvm.Cond.initialized "java/lang/Exception") ∈ lw_tbl := List.mem_append_right _ (List.mem_append_left _ (List.mem_of_getElem? (i := 7) rfl))
theorem ini_RuntimeException : (Jvm.Cond.initialized "java/lang/RuntimeException") ∈ lw_tbl := List.mem_append_right _ (List.mem_append_left _ (List.mem_of_getElem? (i := 8) rfl))
theorem ini_IllegalArgumentException : (Jvm.Cond.initialized "java/lang/IllegalArgumentException") ∈ lw_tbl := List.mem_append_right _ (List.mem_append_left _ (List.mem_of_getElem? (i := 9) rfl))
theorem ini_IllegalStateException : (Jvm.Cond.initialized "java/lang/IllegalStateException") ∈ lw_tbl := List.mem_append_right _ (List.mem_append_left _ (List.mem_of_getElem? (i := 10) rfl))
theorem ini_IndexOutOfBoundsException : (Jvm.Cond.initialized "java/lang/IndexOutOfBoundsException") ∈ lw_tbl := List.mem_append_right _ (List.mem_append_left _ (List.mem_of_getElem? (i := 11) rfl))
theorem clk_L_9 : (Jvm.Cond.classLink "TwinHashTablesLaw" (9 : Nat) "TwinHashTables") ∈ lw_tbl := List.mem_append_right _ (List.mem_append_left _ (List.mem_of_getElem? (i := 12) rfl))
theorem inst_X4 : (Jvm.Cond.instantiable "TwinHashTables" (3 : Nat)) ∈ lw_tbl := List.mem_append_right _ (List.mem_append_left _ (List.mem_of_getElem? (i := 13) rfl))
theorem ml_L_62 : (Jvm.Cond.methodLink "TwinHashTablesLaw" (62 : Nat) ({ cls := "TwinHashTables", name := "<init>", desc := "()V" } : Jvm.MethodName)) ∈ lw_tbl := List.mem_append_right _ (List.mem_append_left _ (List.mem_of_getElem? (i := 14) rfl))
theorem im_X4_init : (Jvm.Cond.instanceMethod ({ cls := "TwinHashTables", name := "<init>", desc := "()V" } : Jvm.MethodName)) ∈ lw_tbl := List.mem_append_right _ (List.mem_append_left _ (List.mem_of_getElem? (i := 15) rfl))
theorem cd_X4_init : (Jvm.Cond.code ({ cls := "TwinHashTables", name := "<init>", desc := "()V" } : Jvm.MethodName) prog_1_method_1_code (1 : Nat) (Option.none : Option Jvm.ClassFile.FieldType)) ∈ lw_tbl := List.mem_append_right _ (List.mem_append_left _ (List.mem_of_getElem? (i := 16) rfl))
theorem ml_X4_1 : (Jvm.Cond.methodLink "TwinHashTables" (1 : Nat) ({ cls := "java/lang/Object", name := "<init>", desc := "()V" } : Jvm.MethodName)) ∈ lw_tbl := List.mem_append_right _ (List.mem_append_left _ (List.mem_of_getElem? (i := 17) rfl))
theorem im_Object_init : (Jvm.Cond.instanceMethod ({ cls := "java/lang/Object", name := "<init>", desc := "()V" } : Jvm.MethodName)) ∈ lw_tbl := List.mem_append_right _ (List.mem_append_left _ (List.mem_of_getElem? (i := 18) rfl))
theorem cd_Object_init : (Jvm.Cond.code ({ cls := "java/lang/Object", name := "<init>", desc := "()V" } : Jvm.MethodName) object_method_1_code (1 : Nat) (Option.none : Option Jvm.ClassFile.FieldType)) ∈ lw_tbl := List.mem_append_right _ (List.mem_append_left _ (List.mem_of_getElem? (i := 19) rfl))
theorem clk_X4_7 : (Jvm.Cond.classLink "TwinHashTables" (7 : Nat) "TwinHashTables$Store") ∈ lw_tbl := List.mem_append_right _ (List.mem_append_left _ (List.mem_of_getElem? (i := 20) rfl))
theorem inst_X3 : (Jvm.Cond.instantiable "TwinHashTables$Store" (5 : Nat)) ∈ lw_tbl := List.mem_append_right _ (List.mem_append_left _ (List.mem_of_getElem? (i := 21) rfl))
theorem ml_X4_9 : (Jvm.Cond.methodLink "TwinHashTables" (9 : Nat) ({ cls := "TwinHashTables$Store", name := "<init>", desc := "()V" } : Jvm.MethodName)) ∈ lw_tbl := List.mem_append_right _ (List.mem_append_left _ (List.mem_of_getElem? (i := 22) rfl))
theorem im_X3_init : (Jvm.Cond.instanceMethod ({ cls := "TwinHashTables$Store", name := "<init>", desc := "()V" } : Jvm.MethodName)) ∈ lw_tbl := List.mem_append_right _ (List.mem_append_left _ (List.mem_of_getElem? (i := 23) rfl))
theorem cd_X3_init : (Jvm.Cond.code ({ cls := "TwinHashTables$Store", name := "<init>", desc := "()V" } : Jvm.MethodName) prog_5_method_1_code (2 : Nat) (Option.none : Option Jvm.ClassFile.FieldType)) ∈ lw_tbl := List.mem_append_right _ (List.mem_append_left _ (List.mem_of_getElem? (i := 24) rfl))
theorem ml_X3_3 : (Jvm.Cond.methodLink "TwinHashTables$Store" (3 : Nat) ({ cls := "java/lang/Object", name := "<init>", desc := "()V" } : Jvm.MethodName)) ∈ lw_tbl := List.mem_append_right _ (List.mem_append_left _ (List.mem_of_getElem? (i := 25) rfl))
theorem fl_X3_9 : (Jvm.Cond.fieldLink "TwinHashTables$Store" (9 : Nat) "TwinHashTables$Store" "keys" "[I") ∈ lw_tbl := List.mem_append_right _ (List.mem_append_left _ (List.mem_of_getElem? (i := 26) rfl))
theorem fl_X3_15 : (Jvm.Cond.fieldLink "TwinHashTables$Store" (15 : Nat) "TwinHashTables$Store" "values" "[I") ∈ lw_tbl := List.mem_append_right _ (List.mem_append_left _ (List.mem_of_getElem? (i := 27) rfl))
theorem fl_X3_18 : (Jvm.Cond.fieldLink "TwinHashTables$Store" (18 : Nat) "TwinHashTables$Store" "order" "[I") ∈ lw_tbl := List.mem_append_right _ (List.mem_append_left _ (List.mem_of_getElem? (i := 28) rfl))
theorem fl_X3_21 : (Jvm.Cond.fieldLink "TwinHashTables$Store" (21 : Nat) "TwinHashTables$Store" "taken" "I") ∈ lw_tbl := List.mem_append_right _ (List.mem_append_left _ (List.mem_of_getElem? (i := 29) rfl))
theorem fn_X4_49 : (Jvm.Cond.fieldLinkNest "TwinHashTables" (49 : Nat) "TwinHashTables$Store" "taken" "I" "TwinHashTables") ∈ lw_tbl := List.mem_append_right _ (List.mem_append_left _ (List.mem_of_getElem? (i := 30) rfl))
theorem fn_X1_67 : (Jvm.Cond.fieldLinkNest "TwinHashTables$Linear" (67 : Nat) "TwinHashTables$Store" "taken" "I" "TwinHashTables") ∈ lw_tbl := List.mem_append_right _ (List.mem_append_left _ (List.mem_of_getElem? (i := 31) rfl))
theorem fl_X3_25 : (Jvm.Cond.fieldLink "TwinHashTables$Store" (25 : Nat) "TwinHashTables$Store" "capacity" "I") ∈ lw_tbl := List.mem_append_right _ (List.mem_append_left _ (List.mem_of_getElem? (i := 32) rfl))
theorem fn_X1_85 : (Jvm.Cond.fieldLinkNest "TwinHashTables$Linear" (85 : Nat) "TwinHashTables$Store" "capacity" "I" "TwinHashTables") ∈ lw_tbl := List.mem_append_right _ (List.mem_append_left _ (List.mem_of_getElem? (i := 33) rfl))
theorem fn_X4_83 : (Jvm.Cond.fieldLinkNest "TwinHashTables" (83 : Nat) "TwinHashTables$Store" "capacity" "I" "TwinHashTables") ∈ lw_tbl := List.mem_append_right _ (List.mem_append_left _ (List.mem_of_getElem? (i := 34) rfl))
theorem fn_X0_83 : (Jvm.Cond.fieldLinkNest "TwinHashTables$Extendible" (83 : Nat) "TwinHashTables$Store" "capacity" "I" "TwinHashTables") ∈ lw_tbl := List.mem_append_right _ (List.mem_append_left _ (List.mem_of_getElem? (i := 35) rfl))
theorem ac_int : (Jvm.Cond.arrayClass Jvm.ClassFile.FieldType.int) ∈ lw_tbl := List.mem_append_right _ (List.mem_append_left _ (List.mem_of_getElem? (i := 47) rfl))
theorem clk_X4_16 : (Jvm.Cond.classLink "TwinHashTables" (16 : Nat) "TwinHashTables$Extendible") ∈ lw_tbl := List.mem_append_right _ (List.mem_append_left _ (List.mem_of_getElem? (i := 48) rfl))
theorem inst_X0 : (Jvm.Cond.instantiable "TwinHashTables$Extendible" (8 : Nat)) ∈ lw_tbl := List.mem_append_right _ (List.mem_append_left _ (List.mem_of_getElem? (i := 49) rfl))
theorem ml_X4_18 : (Jvm.Cond.methodLink "TwinHashTables" (18 : Nat) ({ cls := "TwinHashTables$Extendible", name := "<init>", desc := "(LTwinHashTables$Store;)V" } : Jvm.MethodName)) ∈ lw_tbl := List.mem_append_right _ (List.mem_append_left _ (List.mem_of_getElem? (i := 50) rfl))
theorem im_X0_init : (Jvm.Cond.instanceMethod ({ cls := "TwinHashTables$Extendible", name := "<init>", desc := "(LTwinHashTables$Store;)V" } : Jvm.MethodName)) ∈ lw_tbl := List.mem_append_right _ (List.mem_append_left _ (List.mem_of_getElem? (i := 51) rfl))
theorem cd_X0_init : (Jvm.Cond.code ({ cls := "TwinHashTables$Extendible", name := "<init>", desc := "(LTwinHashTables$Store;)V" } : Jvm.MethodName) prog_2_method_1_code (2 : Nat) (Option.none : Option Jvm.ClassFile.FieldType)) ∈ lw_tbl := List.mem_append_right _ (List.mem_append_left _ (List.mem_of_getElem? (i := 52) rfl))
theorem ml_X0_3 : (Jvm.Cond.methodLink "TwinHashTables$Extendible" (3 : Nat) ({ cls := "java/lang/Object", name := "<init>", desc := "()V" } : Jvm.MethodName)) ∈ lw_tbl := List.mem_append_right _ (List.mem_append_left _ (List.mem_of_getElem? (i := 53) rfl))
theorem clk_X0_35 : (Jvm.Cond.classLink "TwinHashTables$Extendible" (35 : Nat) "TwinHashTables$Rows") ∈ lw_tbl := List.mem_append_right _ (List.mem_append_left _ (List.mem_of_getElem? (i := 54) rfl))
theorem inst_X2 : (Jvm.Cond.instantiable "TwinHashTables$Rows" (5 : Nat)) ∈ lw_tbl := List.mem_append_right _ (List.mem_append_left _ (List.mem_of_getElem? (i := 55) rfl))
theorem ml_X0_37 : (Jvm.Cond.methodLink "TwinHashTables$Extendible" (37 : Nat) ({ cls := "TwinHashTables$Rows", name := "<init>", desc := "(LTwinHashTables$Store;)V" } : Jvm.MethodName)) ∈ lw_tbl := List.mem_append_right _ (List.mem_append_left _ (List.mem_of_getElem? (i := 56) rfl))
theorem im_X2_init : (Jvm.Cond.instanceMethod ({ cls := "TwinHashTables$Rows", name := "<init>", desc := "(LTwinHashTables$Store;)V" } : Jvm.MethodName)) ∈ lw_tbl := List.mem_append_right _ (List.mem_append_left _ (List.mem_of_getElem? (i := 57) rfl))
theorem cd_X2_init : (Jvm.Cond.code ({ cls := "TwinHashTables$Rows", name := "<init>", desc := "(LTwinHashTables$Store;)V" } : Jvm.MethodName) prog_4_method_1_code (2 : Nat) (Option.none : Option Jvm.ClassFile.FieldType)) ∈ lw_tbl := List.mem_append_right _ (List.mem_append_left _ (List.mem_of_getElem? (i := 58) rfl))
theorem ml_X2_3 : (Jvm.Cond.methodLink "TwinHashTables$Rows" (3 : Nat) ({ cls := "java/lang/Object", name := "<init>", desc := "()V" } : Jvm.MethodName)) ∈ lw_tbl := List.mem_append_right _ (List.mem_append_left _ (List.mem_of_getElem? (i := 59) rfl))
theorem fl_X2_24 : (Jvm.Cond.fieldLink "TwinHashTables$Rows" (24 : Nat) "TwinHashTables$Rows" "store" "LTwinHashTables$Store;") ∈ lw_tbl := List.mem_append_right _ (List.mem_append_left _ (List.mem_of_getElem? (i := 60) rfl))
theorem fl_X2_9 : (Jvm.Cond.fieldLink "TwinHashTables$Rows" (9 : Nat) "TwinHashTables$Rows" "first" "[I") ∈ lw_tbl := List.mem_append_right _ (List.mem_append_left _ (List.mem_of_getElem? (i := 61) rfl))
theorem fl_X2_15 : (Jvm.Cond.fieldLink "TwinHashTables$Rows" (15 : Nat) "TwinHashTables$Rows" "last" "[I") ∈ lw_tbl := List.mem_append_right _ (List.mem_append_left _ (List.mem_of_getElem? (i := 62) rfl))
theorem fl_X2_18 : (Jvm.Cond.fieldLink "TwinHashTables$Rows" (18 : Nat) "TwinHashTables$Rows" "counts" "[I") ∈ lw_tbl := List.mem_append_right _ (List.mem_append_left _ (List.mem_of_getElem? (i := 63) rfl))
theorem fl_X2_21 : (Jvm.Cond.fieldLink "TwinHashTables$Rows" (21 : Nat) "TwinHashTables$Rows" "next" "[I") ∈ lw_tbl := List.mem_append_right _ (List.mem_append_left _ (List.mem_of_getElem? (i := 64) rfl))
theorem fl_X0_31 : (Jvm.Cond.fieldLink "TwinHashTables$Extendible" (31 : Nat) "TwinHashTables$Extendible" "store" "LTwinHashTables$Store;") ∈ lw_tbl := List.mem_append_right _ (List.mem_append_left _ (List.mem_of_getElem? (i := 76) rfl))
theorem fl_X0_40 : (Jvm.Cond.fieldLink "TwinHashTables$Extendible" (40 : Nat) "TwinHashTables$Extendible" "rows" "LTwinHashTables$Rows;") ∈ lw_tbl := List.mem_append_right _ (List.mem_append_left _ (List.mem_of_getElem? (i := 77) rfl))
theorem fn_X4_116 : (Jvm.Cond.fieldLinkNest "TwinHashTables" (116 : Nat) "TwinHashTables$Extendible" "rows" "LTwinHashTables$Rows;" "TwinHashTables") ∈ lw_tbl := List.mem_append_right _ (List.mem_append_left _ (List.mem_of_getElem? (i := 78) rfl))
theorem fl_X0_9 : (Jvm.Cond.fieldLink "TwinHashTables$Extendible" (9 : Nat) "TwinHashTables$Extendible" "localDepths" "[I") ∈ lw_tbl := List.mem_append_right _ (List.mem_append_left _ (List.mem_of_getElem? (i := 79) rfl))
theorem fl_X0_15 : (Jvm.Cond.fieldLink "TwinHashTables$Extendible" (15 : Nat) "TwinHashTables$Extendible" "depth" "I") ∈ lw_tbl := List.mem_append_right _ (List.mem_append_left _ (List.mem_of_getElem? (i := 80) rfl))
theorem fn_X4_104 : (Jvm.Cond.fieldLinkNest "TwinHashTables" (104 : Nat) "TwinHashTables$Extendible" "depth" "I" "TwinHashTables") ∈ lw_tbl := List.mem_append_right _ (List.mem_append_left _ (List.mem_of_getElem? (i := 81) rfl))
theorem fl_X0_19 : (Jvm.Cond.fieldLink "TwinHashTables$Extendible" (19 : Nat) "TwinHashTables$Extendible" "doublingCount" "I") ∈ lw_tbl := List.mem_append_right _ (List.mem_append_left _ (List.mem_of_getElem? (i := 82) rfl))
theorem fl_X0_22 : (Jvm.Cond.fieldLink "TwinHashTables$Extendible" (22 : Nat) "TwinHashTables$Extendible" "halvingCount" "I") ∈ lw_tbl := List.mem_append_right _ (List.mem_append_left _ (List.mem_of_getElem? (i := 83) rfl))
theorem fl_X0_25 : (Jvm.Cond.fieldLink "TwinHashTables$Extendible" (25 : Nat) "TwinHashTables$Extendible" "splitCount" "I") ∈ lw_tbl := List.mem_append_right _ (List.mem_append_left _ (List.mem_of_getElem? (i := 84) rfl))
theorem fl_X0_28 : (Jvm.Cond.fieldLink "TwinHashTables$Extendible" (28 : Nat) "TwinHashTables$Extendible" "mergeCount" "I") ∈ lw_tbl := List.mem_append_right _ (List.mem_append_left _ (List.mem_of_getElem? (i := 85) rfl))
theorem clk_X4_25 : (Jvm.Cond.classLink "TwinHashTables" (25 : Nat) "TwinHashTables$Linear") ∈ lw_tbl := List.mem_append_right _ (List.mem_append_left _ (List.mem_of_getElem? (i := 103) rfl))
theorem inst_X1 : (Jvm.Cond.instantiable "TwinHashTables$Linear" (7 : Nat)) ∈ lw_tbl := List.mem_append_right _ (List.mem_append_left _ (List.mem_of_getElem? (i := 104) rfl))
theorem ml_X4_27 : (Jvm.Cond.methodLink "TwinHashTables" (27 : Nat) ({ cls := "TwinHashTables$Linear", name := "<init>", desc := "(LTwinHashTables$Store;)V" } : Jvm.MethodName)) ∈ lw_tbl := List.mem_append_right _ (List.mem_append_left _ (List.mem_of_getElem? (i := 105) rfl))
theorem im_X1_init : (Jvm.Cond.instanceMethod ({ cls := "TwinHashTables$Linear", name := "<init>", desc := "(LTwinHashTables$Store;)V" } : Jvm.MethodName)) ∈ lw_tbl := List.mem_append_right _ (List.mem_append_left _ (List.mem_of_getElem? (i := 106) rfl))
theorem cd_X1_init : (Jvm.Cond.code ({ cls := "TwinHashTables$Linear", name := "<init>", desc := "(LTwinHashTables$Store;)V" } : Jvm.MethodName) prog_3_method_1_code (2 : Nat) (Option.none : Option Jvm.ClassFile.FieldType)) ∈ lw_tbl := List.mem_append_right _ (List.mem_append_left _ (List.mem_of_getElem? (i := 107) rfl))
theorem ml_X1_3 : (Jvm.Cond.methodLink "TwinHashTables$Linear" (3 : Nat) ({ cls := "java/lang/Object", name := "<init>", desc := "()V" } : Jvm.MethodName)) ∈ lw_tbl := List.mem_append_right _ (List.mem_append_left _ (List.mem_of_getElem? (i := 108) rfl))
theorem clk_X1_31 : (Jvm.Cond.classLink "TwinHashTables$Linear" (31 : Nat) "TwinHashTables$Rows") ∈ lw_tbl := List.mem_append_right _ (List.mem_append_left _ (List.mem_of_getElem? (i := 109) rfl))
theorem ml_X1_33 : (Jvm.Cond.methodLink "TwinHashTables$Linear" (33 : Nat) ({ cls := "TwinHashTables$Rows", name := "<init>", desc := "(LTwinHashTables$Store;)V" } : Jvm.MethodName)) ∈ lw_tbl := List.mem_append_right _ (List.mem_append_left _ (List.mem_of_getElem? (i := 110) rfl))
theorem fl_X1_27 : (Jvm.Cond.fieldLink "TwinHashTables$Linear" (27 : Nat) "TwinHashTables$Linear" "store" "LTwinHashTables$Store;") ∈ lw_tbl := List.mem_append_right _ (List.mem_append_left _ (List.mem_of_getElem? (i := 111) rfl))
theorem fl_X1_36 : (Jvm.Cond.fieldLink "TwinHashTables$Linear" (36 : Nat) "TwinHashTables$Linear" "rows" "LTwinHashTables$Rows;") ∈ lw_tbl := List.mem_append_right _ (List.mem_append_left _ (List.mem_of_getElem? (i := 112) rfl))
theorem fl_X1_9 : (Jvm.Cond.fieldLink "TwinHashTables$Linear" (9 : Nat) "TwinHashTables$Linear" "level" "I") ∈ lw_tbl := List.mem_append_right _ (List.mem_append_left _ (List.mem_of_getElem? (i := 113) rfl))
theorem fl_X1_15 : (Jvm.Cond.fieldLink "TwinHashTables$Linear" (15 : Nat) "TwinHashTables$Linear" "pointer" "I") ∈ lw_tbl := List.mem_append_right _ (List.mem_append_left _ (List.mem_of_getElem? (i := 114) rfl))
theorem fl_X1_18 : (Jvm.Cond.fieldLink "TwinHashTables$Linear" (18 : Nat) "TwinHashTables$Linear" "lowLoad" "I") ∈ lw_tbl := List.mem_append_right _ (List.mem_append_left _ (List.mem_of_getElem? (i := 115) rfl))
theorem fl_X1_21 : (Jvm.Cond.fieldLink "TwinHashTables$Linear" (21 : Nat) "TwinHashTables$Linear" "highLoad" "I") ∈ lw_tbl := List.mem_append_right _ (List.mem_append_left _ (List.mem_of_getElem? (i := 116) rfl))
theorem fl_X1_24 : (Jvm.Cond.fieldLink "TwinHashTables$Linear" (24 : Nat) "TwinHashTables$Linear" "splitBalance" "I") ∈ lw_tbl := List.mem_append_right _ (List.mem_append_left _ (List.mem_of_getElem? (i := 117) rfl))
theorem fl_X4_10 : (Jvm.Cond.fieldLink "TwinHashTables" (10 : Nat) "TwinHashTables" "store" "LTwinHashTables$Store;") ∈ lw_tbl := List.mem_append_right _ (List.mem_append_left _ (List.mem_of_getElem? (i := 133) rfl))
theorem fl_X4_21 : (Jvm.Cond.fieldLink "TwinHashTables" (21 : Nat) "TwinHashTables" "extendible" "LTwinHashTables$Extendible;") ∈ lw_tbl := List.mem_append_right _ (List.mem_append_left _ (List.mem_of_getElem? (i := 134) rfl))
theorem fl_X4_28 : (Jvm.Cond.fieldLink "TwinHashTables" (28 : Nat) "TwinHashTables" "linear" "LTwinHashTables$Linear;") ∈ lw_tbl := List.mem_append_right _ (List.mem_append_left _ (List.mem_of_getElem? (i := 135) rfl))
theorem ml_L_77 : (Jvm.Cond.methodLink "TwinHashTablesLaw" (77 : Nat) ({ cls := "TwinHashTables", name := "buckets", desc := "()I" } : Jvm.MethodName)) ∈ lw_tbl := List.mem_append_right _ (List.mem_append_left _ (List.mem_of_getElem? (i := 143) rfl))
theorem im_X4_buckets : (Jvm.Cond.instanceMethod ({ cls := "TwinHashTables", name := "buckets", desc := "()I" } : Jvm.MethodName)) ∈ lw_tbl := List.mem_append_right _ (List.mem_append_left _ (List.mem_of_getElem? (i := 144) rfl))
theorem se_X4_buckets : (Jvm.Cond.selects "TwinHashTables" ({ cls := "TwinHashTables", name := "buckets", desc := "()I" } : Jvm.MethodName) ({ cls := "TwinHashTables", name := "buckets", desc := "()I" } : Jvm.MethodName)) ∈ lw_tbl := List.mem_append_right _ (List.mem_append_left _ (List.mem_of_getElem? (i := 145) rfl))
theorem cd_X4_buckets : (Jvm.Cond.code ({ cls := "TwinHashTables", name := "buckets", desc := "()I" } : Jvm.MethodName) prog_1_method_12_code (1 : Nat) (Option.some Jvm.ClassFile.FieldType.int)) ∈ lw_tbl := List.mem_append_right _ (List.mem_append_left _ (List.mem_of_getElem? (i := 146) rfl))
theorem ml_X4_107 : (Jvm.Cond.methodLink "TwinHashTables" (107 : Nat) ({ cls := "TwinHashTables$Extendible", name := "countBuckets", desc := "()I" } : Jvm.MethodName)) ∈ lw_tbl := List.mem_append_right _ (List.mem_append_left _ (List.mem_of_getElem? (i := 147) rfl))
theorem im_X0_countBuckets : (Jvm.Cond.instanceMethod ({ cls := "TwinHashTables$Extendible", name := "countBuckets", desc := "()I" } : Jvm.MethodName)) ∈ lw_tbl := List.mem_append_right _ (List.mem_append_left _ (List.mem_of_getElem? (i := 148) rfl))
theorem se_X0_countBuckets : (Jvm.Cond.selects "TwinHashTables$Extendible" ({ cls := "TwinHashTables$Extendible", name := "countBuckets", desc := "()I" } : Jvm.MethodName) ({ cls := "TwinHashTables$Extendible", name := "countBuckets", desc := "()I" } : Jvm.MethodName)) ∈ lw_tbl := List.mem_append_right _ (List.mem_append_left _ (List.mem_of_getElem? (i := 149) rfl))
theorem cd_X0_countBuckets : (Jvm.Cond.code ({ cls := "TwinHashTables$Extendible", name := "countBuckets", desc := "()I" } : Jvm.MethodName) prog_2_method_3_code (4 : Nat) (Option.some Jvm.ClassFile.FieldType.int)) ∈ lw_tbl := List.mem_append_right _ (List.mem_append_left _ (List.mem_of_getElem? (i := 150) rfl))
theorem ml_X0_44 : (Jvm.Cond.methodLink "TwinHashTables$Extendible" (44 : Nat) ({ cls := "TwinHashTables$Extendible", name := "countSlots", desc := "()I" } : Jvm.MethodName)) ∈ lw_tbl := List.mem_append_right _ (List.mem_append_left _ (List.mem_of_getElem? (i := 151) rfl))
theorem im_X0_countSlots : (Jvm.Cond.instanceMethod ({ cls := "TwinHashTables$Extendible", name := "countSlots", desc := "()I" } : Jvm.MethodName)) ∈ lw_tbl := List.mem_append_right _ (List.mem_append_left _ (List.mem_of_getElem? (i := 152) rfl))
theorem se_X0_countSlots : (Jvm.Cond.selects "TwinHashTables$Extendible" ({ cls := "TwinHashTables$Extendible", name := "countSlots", desc := "()I" } : Jvm.MethodName) ({ cls := "TwinHashTables$Extendible", name := "countSlots", desc := "()I" } : Jvm.MethodName)) ∈ lw_tbl := List.mem_append_right _ (List.mem_append_left _ (List.mem_of_getElem? (i := 153) rfl))
theorem cd_X0_countSlots : (Jvm.Cond.code ({ cls := "TwinHashTables$Extendible", name := "countSlots", desc := "()I" } : Jvm.MethodName) prog_2_method_2_code (1 : Nat) (Option.some Jvm.ClassFile.FieldType.int)) ∈ lw_tbl := List.mem_append_right _ (List.mem_append_left _ (List.mem_of_getElem? (i := 154) rfl))
theorem ml_X0_48 : (Jvm.Cond.methodLink "TwinHashTables$Extendible" (48 : Nat) ({ cls := "TwinHashTables$Extendible", name := "rowAt", desc := "(I)I" } : Jvm.MethodName)) ∈ lw_tbl := List.mem_append_right _ (List.mem_append_left _ (List.mem_of_getElem? (i := 155) rfl))
theorem im_X0_rowAt : (Jvm.Cond.instanceMethod ({ cls := "TwinHashTables$Extendible", name := "rowAt", desc := "(I)I" } : Jvm.MethodName)) ∈ lw_tbl := List.mem_append_right _ (List.mem_append_left _ (List.mem_of_getElem? (i := 156) rfl))
theorem se_X0_rowAt : (Jvm.Cond.selects "TwinHashTables$Extendible" ({ cls := "TwinHashTables$Extendible", name := "rowAt", desc := "(I)I" } : Jvm.MethodName) ({ cls := "TwinHashTables$Extendible", name := "rowAt", desc := "(I)I" } : Jvm.MethodName)) ∈ lw_tbl := List.mem_append_right _ (List.mem_append_left _ (List.mem_of_getElem? (i := 157) rfl))
theorem cd_X0_rowAt : (Jvm.Cond.code ({ cls := "TwinHashTables$Extendible", name := "rowAt", desc := "(I)I" } : Jvm.MethodName) prog_2_method_6_code (2 : Nat) (Option.some Jvm.ClassFile.FieldType.int)) ∈ lw_tbl := List.mem_append_right _ (List.mem_append_left _ (List.mem_of_getElem? (i := 158) rfl))
theorem ml_X0_63 : (Jvm.Cond.methodLink "TwinHashTables$Extendible" (63 : Nat) ({ cls := "TwinHashTables$Extendible", name := "depthAt", desc := "(I)I" } : Jvm.MethodName)) ∈ lw_tbl := List.mem_append_right _ (List.mem_append_left _ (List.mem_of_getElem? (i := 159) rfl))
theorem im_X0_depthAt : (Jvm.Cond.instanceMethod ({ cls := "TwinHashTables$Extendible", name := "depthAt", desc := "(I)I" } : Jvm.MethodName)) ∈ lw_tbl := List.mem_append_right _ (List.mem_append_left _ (List.mem_of_getElem? (i := 160) rfl))
theorem se_X0_depthAt : (Jvm.Cond.selects "TwinHashTables$Extendible" ({ cls := "TwinHashTables$Extendible", name := "depthAt", desc := "(I)I" } : Jvm.MethodName) ({ cls := "TwinHashTables$Extendible", name := "depthAt", desc := "(I)I" } : Jvm.MethodName)) ∈ lw_tbl := List.mem_append_right _ (List.mem_append_left _ (List.mem_of_getElem? (i := 161) rfl))
theorem cd_X0_depthAt : (Jvm.Cond.code ({ cls := "TwinHashTables$Extendible", name := "depthAt", desc := "(I)I" } : Jvm.MethodName) prog_2_method_4_code (2 : Nat) (Option.some Jvm.ClassFile.FieldType.int)) ∈ lw_tbl := List.mem_append_right _ (List.mem_append_left _ (List.mem_of_getElem? (i := 162) rfl))
theorem mn_X0_52 : (Jvm.Cond.methodLinkNest "TwinHashTables$Extendible" (52 : Nat) ({ cls := "TwinHashTables", name := "isRow", desc := "(I)Z" } : Jvm.MethodName) "TwinHashTables") ∈ lw_tbl := List.mem_append_right _ (List.mem_append_left _ (List.mem_of_getElem? (i := 163) rfl))
theorem sm_X4_isRow : (Jvm.Cond.static ({ cls := "TwinHashTables", name := "isRow", desc := "(I)Z" } : Jvm.MethodName)) ∈ lw_tbl := List.mem_append_right _ (List.mem_append_left _ (List.mem_of_getElem? (i := 164) rfl))
theorem cd_X4_isRow : (Jvm.Cond.code ({ cls := "TwinHashTables", name := "isRow", desc := "(I)Z" } : Jvm.MethodName) prog_1_method_48_code (1 : Nat) (Option.some Jvm.ClassFile.FieldType.boolean)) ∈ lw_tbl := List.mem_append_right _ (List.mem_append_left _ (List.mem_of_getElem? (i := 165) rfl))
theorem mn_X0_59 : (Jvm.Cond.methodLinkNest "TwinHashTables$Extendible" (59 : Nat) ({ cls := "TwinHashTables", name := "lowBits", desc := "(II)I" } : Jvm.MethodName) "TwinHashTables") ∈ lw_tbl := List.mem_append_right _ (List.mem_append_left _ (List.mem_of_getElem? (i := 166) rfl))
theorem sm_X4_lowBits : (Jvm.Cond.static ({ cls := "TwinHashTables", name := "lowBits", desc := "(II)I" } : Jvm.MethodName)) ∈ lw_tbl := List.mem_append_right _ (List.mem_append_left _ (List.mem_of_getElem? (i := 167) rfl))
theorem cd_X4_lowBits : (Jvm.Cond.code ({ cls := "TwinHashTables", name := "lowBits", desc := "(II)I" } : Jvm.MethodName) prog_1_method_45_code (2 : Nat) (Option.some Jvm.ClassFile.FieldType.int)) ∈ lw_tbl := List.mem_append_right _ (List.mem_append_left _ (List.mem_of_getElem? (i := 168) rfl))
theorem ml_L_63 : (Jvm.Cond.methodLink "TwinHashTablesLaw" (63 : Nat) ({ cls := "TwinHashTablesLaw", name := "drawn", desc := "([II)I" } : Jvm.MethodName)) ∈ lw_tbl := List.mem_append_right _ (List.mem_append_left _ (List.mem_of_getElem? (i := 169) rfl))
theorem sm_L_drawn : (Jvm.Cond.static ({ cls := "TwinHashTablesLaw", name := "drawn", desc := "([II)I" } : Jvm.MethodName)) ∈ lw_tbl := List.mem_append_right _ (List.mem_append_left _ (List.mem_of_getElem? (i := 170) rfl))
theorem cd_L_drawn : (Jvm.Cond.code ({ cls := "TwinHashTablesLaw", name := "drawn", desc := "([II)I" } : Jvm.MethodName) method_2_code (3 : Nat) (Option.some Jvm.ClassFile.FieldType.int)) ∈ lw_tbl := List.mem_append_right _ (List.mem_append_left _ (List.mem_of_getElem? (i := 171) rfl))
theorem kc_L_7 : (Jvm.Cond.constant "TwinHashTablesLaw" (7 : Nat) (2147483647 : Int32)) ∈ lw_tbl := List.mem_append_right _ (List.mem_append_left _ (List.mem_of_getElem? (i := 172) rfl))
theorem ml_L_54 : (Jvm.Cond.methodLink "TwinHashTablesLaw" (54 : Nat) ({ cls := "TwinHashTablesLaw", name := "put", desc := "(LTwinHashTables;I)I" } : Jvm.MethodName)) ∈ lw_tbl := List.mem_append_right _ (List.mem_append_left _ (List.mem_of_getElem? (i := 173) rfl))
theorem sm_L_put : (Jvm.Cond.static ({ cls := "TwinHashTablesLaw", name := "put", desc := "(LTwinHashTables;I)I" } : Jvm.MethodName)) ∈ lw_tbl := List.mem_append_right _ (List.mem_append_left _ (List.mem_of_getElem? (i := 174) rfl))
theorem cw_L_put : (Jvm.Cond.codeWith ({ cls := "TwinHashTablesLaw", name := "put", desc := "(LTwinHashTables;I)I" } : Jvm.MethodName) method_3_code (3 : Nat) (Option.some Jvm.ClassFile.FieldType.int) [((0 : Nat), (6 : Nat), (7 : Nat), (14 : Nat)), ((0 : Nat), (6 : Nat), (11 : Nat), (16 : Nat))]) ∈ lw_tbl := List.mem_append_right _ (List.mem_append_left _ (List.mem_of_getElem? (i := 175) rfl))
theorem clk_L_14 : (Jvm.Cond.classLink "TwinHashTablesLaw" (14 : Nat) "java/lang/IllegalArgumentException") ∈ lw_tbl := List.mem_append_right _ (List.mem_append_left _ (List.mem_of_getElem? (i := 176) rfl))
theorem clk_L_16 : (Jvm.Cond.classLink "TwinHashTablesLaw" (16 : Nat) "java/lang/IllegalStateException") ∈ lw_tbl := List.mem_append_right _ (List.mem_append_left _ (List.mem_of_getElem? (i := 177) rfl))
theorem ml_L_8 : (Jvm.Cond.methodLink "TwinHashTablesLaw" (8 : Nat) ({ cls := "TwinHashTables", name := "put", desc := "(II)I" } : Jvm.MethodName)) ∈ lw_tbl := List.mem_append_right _ (List.mem_append_left _ (List.mem_of_getElem? (i := 178) rfl))
theorem im_X4_put : (Jvm.Cond.instanceMethod ({ cls := "TwinHashTables", name := "put", desc := "(II)I" } : Jvm.MethodName)) ∈ lw_tbl := List.mem_append_right _ (List.mem_append_left _ (List.mem_of_getElem? (i := 179) rfl))
theorem se_X4_put : (Jvm.Cond.selects "TwinHashTables" ({ cls := "TwinHashTables", name := "put", desc := "(II)I" } : Jvm.MethodName) ({ cls := "TwinHashTables", name := "put", desc := "(II)I" } : Jvm.MethodName)) ∈ lw_tbl := List.mem_append_right _ (List.mem_append_left _ (List.mem_of_getElem? (i := 180) rfl))
theorem cd_X4_put : (Jvm.Cond.code ({ cls := "TwinHashTables", name := "put", desc := "(II)I" } : Jvm.MethodName) prog_1_method_2_code (4 : Nat) (Option.some Jvm.ClassFile.FieldType.int)) ∈ lw_tbl := List.mem_append_right _ (List.mem_append_left _ (List.mem_of_getElem? (i := 181) rfl))
theorem ml_X4_32 : (Jvm.Cond.methodLink "TwinHashTables" (32 : Nat) ({ cls := "TwinHashTables", name := "checkKey", desc := "(I)V" } : Jvm.MethodName)) ∈ lw_tbl := List.mem_append_right _ (List.mem_append_left _ (List.mem_of_getElem? (i := 182) rfl))
theorem sm_X4_checkKey : (Jvm.Cond.static ({ cls := "TwinHashTables", name := "checkKey", desc := "(I)V" } : Jvm.MethodName)) ∈ lw_tbl := List.mem_append_right _ (List.mem_append_left _ (List.mem_of_getElem? (i := 183) rfl))
theorem cd_X4_checkKey : (Jvm.Cond.code ({ cls := "TwinHashTables", name := "checkKey", desc := "(I)V" } : Jvm.MethodName) prog_1_method_41_code (1 : Nat) (Option.none : Option Jvm.ClassFile.FieldType)) ∈ lw_tbl := List.mem_append_right _ (List.mem_append_left _ (List.mem_of_getElem? (i := 184) rfl))
theorem kc_X4_201 : (Jvm.Cond.constant "TwinHashTables" (201 : Nat) (65535 : Int32)) ∈ lw_tbl := List.mem_append_right _ (List.mem_append_left _ (List.mem_of_getElem? (i := 185) rfl))
theorem ml_X4_37 : (Jvm.Cond.methodLink "TwinHashTables" (37 : Nat) ({ cls := "TwinHashTables", name := "checkRange", desc := "(III)V" } : Jvm.MethodName)) ∈ lw_tbl := List.mem_append_right _ (List.mem_append_left _ (List.mem_of_getElem? (i := 186) rfl))
theorem sm_X4_checkRange : (Jvm.Cond.static ({ cls := "TwinHashTables", name := "checkRange", desc := "(III)V" } : Jvm.MethodName)) ∈ lw_tbl := List.mem_append_right _ (List.mem_append_left _ (List.mem_of_getElem? (i := 187) rfl))
theorem cd_X4_checkRange : (Jvm.Cond.code ({ cls := "TwinHashTables", name := "checkRange", desc := "(III)V" } : Jvm.MethodName) prog_1_method_42_code (3 : Nat) (Option.none : Option Jvm.ClassFile.FieldType)) ∈ lw_tbl := List.mem_append_right _ (List.mem_append_left _ (List.mem_of_getElem? (i := 188) rfl))
theorem clk_X4_202 : (Jvm.Cond.classLink "TwinHashTables" (202 : Nat) "java/lang/IllegalArgumentException") ∈ lw_tbl := List.mem_append_right _ (List.mem_append_left _ (List.mem_of_getElem? (i := 189) rfl))
theorem inst_IllegalArgumentException : (Jvm.Cond.instantiable "java/lang/IllegalArgumentException" (6 : Nat)) ∈ lw_tbl := List.mem_append_right _ (List.mem_append_left _ (List.mem_of_getElem? (i := 190) rfl))
theorem cst_IllegalArgumentException_IllegalArgumentException : (Jvm.Cond.castable "java/lang/IllegalArgumentException" "java/lang/IllegalArgumentException") ∈ lw_tbl := List.mem_append_right _ (List.mem_append_left _ (List.mem_of_getElem? (i := 191) rfl))
theorem se_Throwable_fillInStackTrace : (Jvm.Cond.selects "java/lang/IllegalArgumentException" ({ cls := "java/lang/Throwable", name := "fillInStackTrace", desc := "(I)Ljava/lang/Throwable;" } : Jvm.MethodName) ({ cls := "java/lang/Throwable", name := "fillInStackTrace", desc := "(I)Ljava/lang/Throwable;" } : Jvm.MethodName)) ∈ lw_tbl := List.mem_append_right _ (List.mem_append_left _ (List.mem_of_getElem? (i := 198) rfl))
theorem se_Throwable_fillInStackTrace_199 : (Jvm.Cond.selects "java/lang/IllegalArgumentException" ({ cls := "java/lang/Throwable", name := "fillInStackTrace", desc := "()Ljava/lang/Throwable;" } : Jvm.MethodName) ({ cls := "java/lang/Throwable", name := "fillInStackTrace", desc := "()Ljava/lang/Throwable;" } : Jvm.MethodName)) ∈ lw_tbl := List.mem_append_right _ (List.mem_append_left _ (List.mem_of_getElem? (i := 199) rfl))
theorem fl_Throwable_198 : (Jvm.Cond.fieldLink "java/lang/Throwable" (198 : Nat) "java/lang/Throwable" "backtrace" "Ljava/lang/Object;") ∈ lw_tbl := List.mem_append_right _ (List.mem_append_left _ (List.mem_of_getElem? (i := 210) rfl))
theorem im_Throwable_init : (Jvm.Cond.instanceMethod ({ cls := "java/lang/Throwable", name := "<init>", desc := "()V" } : Jvm.MethodName)) ∈ lw_tbl := List.mem_append_right _ (List.mem_append_left _ (List.mem_of_getElem? (i := 212) rfl))
theorem cd_Throwable_init : (Jvm.Cond.code ({ cls := "java/lang/Throwable", name := "<init>", desc := "()V" } : Jvm.MethodName) prog_14_method_1_code (1 : Nat) (Option.none : Option Jvm.ClassFile.FieldType)) ∈ lw_tbl := List.mem_append_right _ (List.mem_append_left _ (List.mem_of_getElem? (i := 213) rfl))
theorem ml_Throwable_1 : (Jvm.Cond.methodLink "java/lang/Throwable" (1 : Nat) ({ cls := "java/lang/Object", name := "<init>", desc := "()V" } : Jvm.MethodName)) ∈ lw_tbl := List.mem_append_right _ (List.mem_append_left _ (List.mem_of_getElem? (i := 214) rfl))
theorem fl_Throwable_13 : (Jvm.Cond.fieldLink "java/lang/Throwable" (13 : Nat) "java/lang/Throwable" "UNASSIGNED_STACK" "[Ljava/lang/StackTraceElement;") ∈ lw_tbl := List.mem_append_right _ (List.mem_append_left _ (List.mem_of_getElem? (i := 215) rfl))
theorem fl_Throwable_20 : (Jvm.Cond.fieldLink "java/lang/Throwable" (20 : Nat) "java/lang/Throwable" "SUPPRESSED_SENTINEL" "Ljava/util/List;") ∈ lw_tbl := List.mem_append_right _ (List.mem_append_left _ (List.mem_of_getElem? (i := 217) rfl))
theorem ml_Throwable_27 : (Jvm.Cond.methodLink "java/lang/Throwable" (27 : Nat) ({ cls := "java/lang/Throwable", name := "fillInStackTrace", desc := "()Ljava/lang/Throwable;" } : Jvm.MethodName)) ∈ lw_tbl := List.mem_append_right _ (List.mem_append_left _ (List.mem_of_getElem? (i := 219) rfl))
theorem im_Throwable_fillInStackTrace : (Jvm.Cond.instanceMethod ({ cls := "java/lang/Throwable", name := "fillInStackTrace", desc := "()Ljava/lang/Throwable;" } : Jvm.MethodName)) ∈ lw_tbl := List.mem_append_right _ (List.mem_append_left _ (List.mem_of_getElem? (i := 220) rfl))
theorem se_Throwable_fillInStackTrace_222 : (Jvm.Cond.selects "java/lang/IllegalStateException" ({ cls := "java/lang/Throwable", name := "fillInStackTrace", desc := "()Ljava/lang/Throwable;" } : Jvm.MethodName) ({ cls := "java/lang/Throwable", name := "fillInStackTrace", desc := "()Ljava/lang/Throwable;" } : Jvm.MethodName)) ∈ lw_tbl := List.mem_append_right _ (List.mem_append_left _ (List.mem_of_getElem? (i := 222) rfl))
theorem se_Throwable_fillInStackTrace_223 : (Jvm.Cond.selects "java/lang/IndexOutOfBoundsException" ({ cls := "java/lang/Throwable", name := "fillInStackTrace", desc := "()Ljava/lang/Throwable;" } : Jvm.MethodName) ({ cls := "java/lang/Throwable", name := "fillInStackTrace", desc := "()Ljava/lang/Throwable;" } : Jvm.MethodName)) ∈ lw_tbl := List.mem_append_right _ (List.mem_append_left _ (List.mem_of_getElem? (i := 223) rfl))
theorem ml_Throwable_202 : (Jvm.Cond.methodLink "java/lang/Throwable" (202 : Nat) ({ cls := "java/lang/Throwable", name := "fillInStackTrace", desc := "(I)Ljava/lang/Throwable;" } : Jvm.MethodName)) ∈ lw_tbl := List.mem_append_right _ (List.mem_append_left _ (List.mem_of_getElem? (i := 225) rfl))
theorem im_Throwable_fillInStackTrace_227 : (Jvm.Cond.instanceMethod ({ cls := "java/lang/Throwable", name := "fillInStackTrace", desc := "(I)Ljava/lang/Throwable;" } : Jvm.MethodName)) ∈ lw_tbl := List.mem_append_right _ (List.mem_append_left _ (List.mem_of_getElem? (i := 227) rfl))
theorem inst_Throwable : (Jvm.Cond.instantiable "java/lang/Throwable" (6 : Nat)) ∈ lw_tbl := List.mem_append_right _ (List.mem_append_left _ (List.mem_of_getElem? (i := 228) rfl))
theorem str_X4_204 : (Jvm.Cond.stringRef "TwinHashTables" (204 : Nat) "out of range") ∈ lw_tbl := List.mem_append_right _ (List.mem_append_left _ (List.mem_of_getElem? (i := 230) rfl))
theorem ml_X4_206 : (Jvm.Cond.methodLink "TwinHashTables" (206 : Nat) ({ cls := "java/lang/IllegalArgumentException", name := "<init>", desc := "(Ljava/lang/String;)V" } : Jvm.MethodName)) ∈ lw_tbl := List.mem_append_right _ (List.mem_append_left _ (List.mem_of_getElem? (i := 231) rfl))
theorem im_IllegalArgumentException_init : (Jvm.Cond.instanceMethod ({ cls := "java/lang/IllegalArgumentException", name := "<init>", desc := "(Ljava/lang/String;)V" } : Jvm.MethodName)) ∈ lw_tbl := List.mem_append_right _ (List.mem_append_left _ (List.mem_of_getElem? (i := 232) rfl))
theorem cd_IllegalArgumentException_init : (Jvm.Cond.code ({ cls := "java/lang/IllegalArgumentException", name := "<init>", desc := "(Ljava/lang/String;)V" } : Jvm.MethodName) prog_9_method_2_code (2 : Nat) (Option.none : Option Jvm.ClassFile.FieldType)) ∈ lw_tbl := List.mem_append_right _ (List.mem_append_left _ (List.mem_of_getElem? (i := 233) rfl))
theorem ml_IllegalArgumentException_7 : (Jvm.Cond.methodLink "java/lang/IllegalArgumentException" (7 : Nat) ({ cls := "java/lang/RuntimeException", name := "<init>", desc := "(Ljava/lang/String;)V" } : Jvm.MethodName)) ∈ lw_tbl := List.mem_append_right _ (List.mem_append_left _ (List.mem_of_getElem? (i := 234) rfl))
theorem im_RuntimeException_init : (Jvm.Cond.instanceMethod ({ cls := "java/lang/RuntimeException", name := "<init>", desc := "(Ljava/lang/String;)V" } : Jvm.MethodName)) ∈ lw_tbl := List.mem_append_right _ (List.mem_append_left _ (List.mem_of_getElem? (i := 235) rfl))
theorem cd_RuntimeException_init : (Jvm.Cond.code ({ cls := "java/lang/RuntimeException", name := "<init>", desc := "(Ljava/lang/String;)V" } : Jvm.MethodName) prog_12_method_2_code (2 : Nat) (Option.none : Option Jvm.ClassFile.FieldType)) ∈ lw_tbl := List.mem_append_right _ (List.mem_append_left _ (List.mem_of_getElem? (i := 236) rfl))
theorem ml_RuntimeException_7 : (Jvm.Cond.methodLink "java/lang/RuntimeException" (7 : Nat) ({ cls := "java/lang/Exception", name := "<init>", desc := "(Ljava/lang/String;)V" } : Jvm.MethodName)) ∈ lw_tbl := List.mem_append_right _ (List.mem_append_left _ (List.mem_of_getElem? (i := 237) rfl))
theorem im_Exception_init : (Jvm.Cond.instanceMethod ({ cls := "java/lang/Exception", name := "<init>", desc := "(Ljava/lang/String;)V" } : Jvm.MethodName)) ∈ lw_tbl := List.mem_append_right _ (List.mem_append_left _ (List.mem_of_getElem? (i := 238) rfl))
theorem cd_Exception_init : (Jvm.Cond.code ({ cls := "java/lang/Exception", name := "<init>", desc := "(Ljava/lang/String;)V" } : Jvm.MethodName) prog_8_method_2_code (2 : Nat) (Option.none : Option Jvm.ClassFile.FieldType)) ∈ lw_tbl := List.mem_append_right _ (List.mem_append_left _ (List.mem_of_getElem? (i := 239) rfl))
theorem ml_Exception_7 : (Jvm.Cond.methodLink "java/lang/Exception" (7 : Nat) ({ cls := "java/lang/Throwable", name := "<init>", desc := "(Ljava/lang/String;)V" } : Jvm.MethodName)) ∈ lw_tbl := List.mem_append_right _ (List.mem_append_right _ (List.mem_append_left _ (List.mem_of_getElem? (i := 0) rfl)))
theorem im_Throwable_init_241 : (Jvm.Cond.instanceMethod ({ cls := "java/lang/Throwable", name := "<init>", desc := "(Ljava/lang/String;)V" } : Jvm.MethodName)) ∈ lw_tbl := List.mem_append_right _ (List.mem_append_right _ (List.mem_append_left _ (List.mem_of_getElem? (i := 1) rfl)))
theorem cd_Throwable_init_242 : (Jvm.Cond.code ({ cls := "java/lang/Throwable", name := "<init>", desc := "(Ljava/lang/String;)V" } : Jvm.MethodName) prog_14_method_2_code (2 : Nat) (Option.none : Option Jvm.ClassFile.FieldType)) ∈ lw_tbl := List.mem_append_right _ (List.mem_append_right _ (List.mem_append_left _ (List.mem_of_getElem? (i := 2) rfl)))
theorem fl_Throwable_198_243 : (Jvm.Cond.fieldLink "java/lang/Throwable" (198 : Nat) "java/lang/Throwable" "backtrace" "Ljava/lang/Object;") ∈ lw_tbl := List.mem_append_right _ (List.mem_append_right _ (List.mem_append_left _ (List.mem_of_getElem? (i := 3) rfl)))
theorem fl_Throwable_31 : (Jvm.Cond.fieldLink "java/lang/Throwable" (31 : Nat) "java/lang/Throwable" "detailMessage" "Ljava/lang/String;") ∈ lw_tbl := List.mem_append_right _ (List.mem_append_right _ (List.mem_append_left _ (List.mem_of_getElem? (i := 4) rfl)))
theorem fl_Throwable_7 : (Jvm.Cond.fieldLink "java/lang/Throwable" (7 : Nat) "java/lang/Throwable" "cause" "Ljava/lang/Throwable;") ∈ lw_tbl := List.mem_append_right _ (List.mem_append_right _ (List.mem_append_left _ (List.mem_of_getElem? (i := 5) rfl)))
theorem fl_Throwable_17 : (Jvm.Cond.fieldLink "java/lang/Throwable" (17 : Nat) "java/lang/Throwable" "stackTrace" "[Ljava/lang/StackTraceElement;") ∈ lw_tbl := List.mem_append_right _ (List.mem_append_right _ (List.mem_append_left _ (List.mem_of_getElem? (i := 6) rfl)))
theorem fl_Throwable_24 : (Jvm.Cond.fieldLink "java/lang/Throwable" (24 : Nat) "java/lang/Throwable" "suppressedExceptions" "Ljava/util/List;") ∈ lw_tbl := List.mem_append_right _ (List.mem_append_right _ (List.mem_append_left _ (List.mem_of_getElem? (i := 7) rfl)))
theorem ac_byte : (Jvm.Cond.arrayClass Jvm.ClassFile.FieldType.byte) ∈ lw_tbl := List.mem_append_right _ (List.mem_append_right _ (List.mem_append_left _ (List.mem_of_getElem? (i := 16) rfl)))
theorem kc_X4_36 : (Jvm.Cond.constant "TwinHashTables" (36 : Nat) (999999 : Int32)) ∈ lw_tbl := List.mem_append_right _ (List.mem_append_right _ (List.mem_append_left _ (List.mem_of_getElem? (i := 17) rfl)))
theorem ml_X4_41 : (Jvm.Cond.methodLink "TwinHashTables" (41 : Nat) ({ cls := "TwinHashTables$Extendible", name := "find", desc := "(I)I" } : Jvm.MethodName)) ∈ lw_tbl := List.mem_append_right _ (List.mem_append_right _ (List.mem_append_left _ (List.mem_of_getElem? (i := 18) rfl)))
theorem im_X0_find : (Jvm.Cond.instanceMethod ({ cls := "TwinHashTables$Extendible", name := "find", desc := "(I)I" } : Jvm.MethodName)) ∈ lw_tbl := List.mem_append_right _ (List.mem_append_right _ (List.mem_append_left _ (List.mem_of_getElem? (i := 19) rfl)))
theorem se_X0_find : (Jvm.Cond.selects "TwinHashTables$Extendible" ({ cls := "TwinHashTables$Extendible", name := "find", desc := "(I)I" } : Jvm.MethodName) ({ cls := "TwinHashTables$Extendible", name := "find", desc := "(I)I" } : Jvm.MethodName)) ∈ lw_tbl := List.mem_append_right _ (List.mem_append_right _ (List.mem_append_left _ (List.mem_of_getElem? (i := 20) rfl)))
theorem cd_X0_find : (Jvm.Cond.code ({ cls := "TwinHashTables$Extendible", name := "find", desc := "(I)I" } : Jvm.MethodName) prog_2_method_8_code (2 : Nat) (Option.some Jvm.ClassFile.FieldType.int)) ∈ lw_tbl := List.mem_append_right _ (List.mem_append_right _ (List.mem_append_left _ (List.mem_of_getElem? (i := 21) rfl)))
theorem ml_X0_69 : (Jvm.Cond.methodLink "TwinHashTables$Extendible" (69 : Nat) ({ cls := "TwinHashTables$Extendible", name := "rowFor", desc := "(I)I" } : Jvm.MethodName)) ∈ lw_tbl := List.mem_append_right _ (List.mem_append_right _ (List.mem_append_left _ (List.mem_of_getElem? (i := 22) rfl)))
theorem im_X0_rowFor : (Jvm.Cond.instanceMethod ({ cls := "TwinHashTables$Extendible", name := "rowFor", desc := "(I)I" } : Jvm.MethodName)) ∈ lw_tbl := List.mem_append_right _ (List.mem_append_right _ (List.mem_append_left _ (List.mem_of_getElem? (i := 23) rfl)))
theorem se_X0_rowFor : (Jvm.Cond.selects "TwinHashTables$Extendible" ({ cls := "TwinHashTables$Extendible", name := "rowFor", desc := "(I)I" } : Jvm.MethodName) ({ cls := "TwinHashTables$Extendible", name := "rowFor", desc := "(I)I" } : Jvm.MethodName)) ∈ lw_tbl := List.mem_append_right _ (List.mem_append_right _ (List.mem_append_left _ (List.mem_of_getElem? (i := 24) rfl)))
theorem cd_X0_rowFor : (Jvm.Cond.code ({ cls := "TwinHashTables$Extendible", name := "rowFor", desc := "(I)I" } : Jvm.MethodName) prog_2_method_7_code (2 : Nat) (Option.some Jvm.ClassFile.FieldType.int)) ∈ lw_tbl := List.mem_append_right _ (List.mem_append_right _ (List.mem_append_left _ (List.mem_of_getElem? (i := 25) rfl)))
theorem ml_X0_66 : (Jvm.Cond.methodLink "TwinHashTables$Extendible" (66 : Nat) ({ cls := "TwinHashTables$Extendible", name := "slotFor", desc := "(I)I" } : Jvm.MethodName)) ∈ lw_tbl := List.mem_append_right _ (List.mem_append_right _ (List.mem_append_left _ (List.mem_of_getElem? (i := 26) rfl)))
theorem im_X0_slotFor : (Jvm.Cond.instanceMethod ({ cls := "TwinHashTables$Extendible", name := "slotFor", desc := "(I)I" } : Jvm.MethodName)) ∈ lw_tbl := List.mem_append_right _ (List.mem_append_right _ (List.mem_append_left _ (List.mem_of_getElem? (i := 27) rfl)))
theorem se_X0_slotFor : (Jvm.Cond.selects "TwinHashTables$Extendible" ({ cls := "TwinHashTables$Extendible", name := "slotFor", desc := "(I)I" } : Jvm.MethodName) ({ cls := "TwinHashTables$Extendible", name := "slotFor", desc := "(I)I" } : Jvm.MethodName)) ∈ lw_tbl := List.mem_append_right _ (List.mem_append_right _ (List.mem_append_left _ (List.mem_of_getElem? (i := 28) rfl)))
theorem cd_X0_slotFor : (Jvm.Cond.code ({ cls := "TwinHashTables$Extendible", name := "slotFor", desc := "(I)I" } : Jvm.MethodName) prog_2_method_5_code (2 : Nat) (Option.some Jvm.ClassFile.FieldType.int)) ∈ lw_tbl := List.mem_append_right _ (List.mem_append_right _ (List.mem_append_left _ (List.mem_of_getElem? (i := 29) rfl)))
theorem mn_X0_56 : (Jvm.Cond.methodLinkNest "TwinHashTables$Extendible" (56 : Nat) ({ cls := "TwinHashTables", name := "hash", desc := "(I)I" } : Jvm.MethodName) "TwinHashTables") ∈ lw_tbl := List.mem_append_right _ (List.mem_append_right _ (List.mem_append_left _ (List.mem_of_getElem? (i := 30) rfl)))
theorem sm_X4_hash : (Jvm.Cond.static ({ cls := "TwinHashTables", name := "hash", desc := "(I)I" } : Jvm.MethodName)) ∈ lw_tbl := List.mem_append_right _ (List.mem_append_right _ (List.mem_append_left _ (List.mem_of_getElem? (i := 31) rfl)))
theorem cd_X4_hash : (Jvm.Cond.code ({ cls := "TwinHashTables", name := "hash", desc := "(I)I" } : Jvm.MethodName) prog_1_method_44_code (1 : Nat) (Option.some Jvm.ClassFile.FieldType.int)) ∈ lw_tbl := List.mem_append_right _ (List.mem_append_right _ (List.mem_append_left _ (List.mem_of_getElem? (i := 32) rfl)))
theorem kc_X4_212 : (Jvm.Cond.constant "TwinHashTables" (212 : Nat) (40503 : Int32)) ∈ lw_tbl := List.mem_append_right _ (List.mem_append_right _ (List.mem_append_left _ (List.mem_of_getElem? (i := 33) rfl)))
theorem ml_X4_162 : (Jvm.Cond.methodLink "TwinHashTables" (162 : Nat) ({ cls := "TwinHashTables", name := "lowBits", desc := "(II)I" } : Jvm.MethodName)) ∈ lw_tbl := List.mem_append_right _ (List.mem_append_right _ (List.mem_append_left _ (List.mem_of_getElem? (i := 34) rfl)))
theorem ml_X0_72 : (Jvm.Cond.methodLink "TwinHashTables$Extendible" (72 : Nat) ({ cls := "TwinHashTables$Rows", name := "find", desc := "(II)I" } : Jvm.MethodName)) ∈ lw_tbl := List.mem_append_right _ (List.mem_append_right _ (List.mem_append_left _ (List.mem_of_getElem? (i := 35) rfl)))
theorem im_X2_find : (Jvm.Cond.instanceMethod ({ cls := "TwinHashTables$Rows", name := "find", desc := "(II)I" } : Jvm.MethodName)) ∈ lw_tbl := List.mem_append_right _ (List.mem_append_right _ (List.mem_append_left _ (List.mem_of_getElem? (i := 36) rfl)))
theorem se_X2_find : (Jvm.Cond.selects "TwinHashTables$Rows" ({ cls := "TwinHashTables$Rows", name := "find", desc := "(II)I" } : Jvm.MethodName) ({ cls := "TwinHashTables$Rows", name := "find", desc := "(II)I" } : Jvm.MethodName)) ∈ lw_tbl := List.mem_append_right _ (List.mem_append_right _ (List.mem_append_left _ (List.mem_of_getElem? (i := 37) rfl)))
theorem cd_X2_find : (Jvm.Cond.code ({ cls := "TwinHashTables$Rows", name := "find", desc := "(II)I" } : Jvm.MethodName) prog_4_method_4_code (4 : Nat) (Option.some Jvm.ClassFile.FieldType.int)) ∈ lw_tbl := List.mem_append_right _ (List.mem_append_right _ (List.mem_append_left _ (List.mem_of_getElem? (i := 38) rfl)))
theorem ml_X2_39 : (Jvm.Cond.methodLink "TwinHashTables$Rows" (39 : Nat) ({ cls := "TwinHashTables$Rows", name := "placeOf", desc := "(II)I" } : Jvm.MethodName)) ∈ lw_tbl := List.mem_append_right _ (List.mem_append_right _ (List.mem_append_left _ (List.mem_of_getElem? (i := 39) rfl)))
theorem im_X2_placeOf : (Jvm.Cond.instanceMethod ({ cls := "TwinHashTables$Rows", name := "placeOf", desc := "(II)I" } : Jvm.MethodName)) ∈ lw_tbl := List.mem_append_right _ (List.mem_append_right _ (List.mem_append_left _ (List.mem_of_getElem? (i := 41) rfl)))
theorem cd_X2_placeOf : (Jvm.Cond.code ({ cls := "TwinHashTables$Rows", name := "placeOf", desc := "(II)I" } : Jvm.MethodName) prog_4_method_13_code (6 : Nat) (Option.some Jvm.ClassFile.FieldType.int)) ∈ lw_tbl := List.mem_append_right _ (List.mem_append_right _ (List.mem_append_left _ (List.mem_of_getElem? (i := 42) rfl)))
theorem ml_X2_56 : (Jvm.Cond.methodLink "TwinHashTables$Rows" (56 : Nat) ({ cls := "TwinHashTables$Rows", name := "count", desc := "(I)I" } : Jvm.MethodName)) ∈ lw_tbl := List.mem_append_right _ (List.mem_append_right _ (List.mem_append_left _ (List.mem_of_getElem? (i := 43) rfl)))
theorem im_X2_count : (Jvm.Cond.instanceMethod ({ cls := "TwinHashTables$Rows", name := "count", desc := "(I)I" } : Jvm.MethodName)) ∈ lw_tbl := List.mem_append_right _ (List.mem_append_right _ (List.mem_append_left _ (List.mem_of_getElem? (i := 44) rfl)))
theorem se_X2_count : (Jvm.Cond.selects "TwinHashTables$Rows" ({ cls := "TwinHashTables$Rows", name := "count", desc := "(I)I" } : Jvm.MethodName) ({ cls := "TwinHashTables$Rows", name := "count", desc := "(I)I" } : Jvm.MethodName)) ∈ lw_tbl := List.mem_append_right _ (List.mem_append_right _ (List.mem_append_left _ (List.mem_of_getElem? (i := 45) rfl)))
theorem cd_X2_count : (Jvm.Cond.code ({ cls := "TwinHashTables$Rows", name := "count", desc := "(I)I" } : Jvm.MethodName) prog_4_method_2_code (2 : Nat) (Option.some Jvm.ClassFile.FieldType.int)) ∈ lw_tbl := List.mem_append_right _ (List.mem_append_right _ (List.mem_append_left _ (List.mem_of_getElem? (i := 46) rfl)))
theorem mn_X2_28 : (Jvm.Cond.methodLinkNest "TwinHashTables$Rows" (28 : Nat) ({ cls := "TwinHashTables", name := "isRow", desc := "(I)Z" } : Jvm.MethodName) "TwinHashTables") ∈ lw_tbl := List.mem_append_right _ (List.mem_append_right _ (List.mem_append_left _ (List.mem_of_getElem? (i := 47) rfl)))
theorem ml_X2_32 : (Jvm.Cond.methodLink "TwinHashTables$Rows" (32 : Nat) ({ cls := "TwinHashTables$Rows", name := "firstOf", desc := "(I)I" } : Jvm.MethodName)) ∈ lw_tbl := List.mem_append_right _ (List.mem_append_right _ (List.mem_append_left _ (List.mem_of_getElem? (i := 48) rfl)))
theorem im_X2_firstOf : (Jvm.Cond.instanceMethod ({ cls := "TwinHashTables$Rows", name := "firstOf", desc := "(I)I" } : Jvm.MethodName)) ∈ lw_tbl := List.mem_append_right _ (List.mem_append_right _ (List.mem_append_left _ (List.mem_of_getElem? (i := 50) rfl)))
theorem cd_X2_firstOf : (Jvm.Cond.code ({ cls := "TwinHashTables$Rows", name := "firstOf", desc := "(I)I" } : Jvm.MethodName) prog_4_method_15_code (2 : Nat) (Option.some Jvm.ClassFile.FieldType.int)) ∈ lw_tbl := List.mem_append_right _ (List.mem_append_right _ (List.mem_append_left _ (List.mem_of_getElem? (i := 51) rfl)))
theorem ml_X2_63 : (Jvm.Cond.methodLink "TwinHashTables$Rows" (63 : Nat) ({ cls := "TwinHashTables$Store", name := "keyOf", desc := "(I)I" } : Jvm.MethodName)) ∈ lw_tbl := List.mem_append_right _ (List.mem_append_right _ (List.mem_append_left _ (List.mem_of_getElem? (i := 52) rfl)))
theorem im_X3_keyOf : (Jvm.Cond.instanceMethod ({ cls := "TwinHashTables$Store", name := "keyOf", desc := "(I)I" } : Jvm.MethodName)) ∈ lw_tbl := List.mem_append_right _ (List.mem_append_right _ (List.mem_append_left _ (List.mem_of_getElem? (i := 53) rfl)))
theorem se_X3_keyOf : (Jvm.Cond.selects "TwinHashTables$Store" ({ cls := "TwinHashTables$Store", name := "keyOf", desc := "(I)I" } : Jvm.MethodName) ({ cls := "TwinHashTables$Store", name := "keyOf", desc := "(I)I" } : Jvm.MethodName)) ∈ lw_tbl := List.mem_append_right _ (List.mem_append_right _ (List.mem_append_left _ (List.mem_of_getElem? (i := 54) rfl)))
theorem cd_X3_keyOf : (Jvm.Cond.code ({ cls := "TwinHashTables$Store", name := "keyOf", desc := "(I)I" } : Jvm.MethodName) prog_5_method_2_code (2 : Nat) (Option.some Jvm.ClassFile.FieldType.int)) ∈ lw_tbl := List.mem_append_right _ (List.mem_append_right _ (List.mem_append_left _ (List.mem_of_getElem? (i := 55) rfl)))
theorem mn_X3_28 : (Jvm.Cond.methodLinkNest "TwinHashTables$Store" (28 : Nat) ({ cls := "TwinHashTables", name := "isEntry", desc := "(I)Z" } : Jvm.MethodName) "TwinHashTables") ∈ lw_tbl := List.mem_append_right _ (List.mem_append_right _ (List.mem_append_left _ (List.mem_of_getElem? (i := 56) rfl)))
theorem sm_X4_isEntry : (Jvm.Cond.static ({ cls := "TwinHashTables", name := "isEntry", desc := "(I)Z" } : Jvm.MethodName)) ∈ lw_tbl := List.mem_append_right _ (List.mem_append_right _ (List.mem_append_left _ (List.mem_of_getElem? (i := 57) rfl)))
theorem cd_X4_isEntry : (Jvm.Cond.code ({ cls := "TwinHashTables", name := "isEntry", desc := "(I)Z" } : Jvm.MethodName) prog_1_method_49_code (1 : Nat) (Option.some Jvm.ClassFile.FieldType.boolean)) ∈ lw_tbl := List.mem_append_right _ (List.mem_append_right _ (List.mem_append_left _ (List.mem_of_getElem? (i := 58) rfl)))
theorem ml_X2_36 : (Jvm.Cond.methodLink "TwinHashTables$Rows" (36 : Nat) ({ cls := "TwinHashTables$Rows", name := "after", desc := "(I)I" } : Jvm.MethodName)) ∈ lw_tbl := List.mem_append_right _ (List.mem_append_right _ (List.mem_append_left _ (List.mem_of_getElem? (i := 59) rfl)))
theorem im_X2_after : (Jvm.Cond.instanceMethod ({ cls := "TwinHashTables$Rows", name := "after", desc := "(I)I" } : Jvm.MethodName)) ∈ lw_tbl := List.mem_append_right _ (List.mem_append_right _ (List.mem_append_left _ (List.mem_of_getElem? (i := 61) rfl)))
theorem cd_X2_after : (Jvm.Cond.code ({ cls := "TwinHashTables$Rows", name := "after", desc := "(I)I" } : Jvm.MethodName) prog_4_method_16_code (2 : Nat) (Option.some Jvm.ClassFile.FieldType.int)) ∈ lw_tbl := List.mem_append_right _ (List.mem_append_right _ (List.mem_append_left _ (List.mem_of_getElem? (i := 62) rfl)))
theorem mn_X2_46 : (Jvm.Cond.methodLinkNest "TwinHashTables$Rows" (46 : Nat) ({ cls := "TwinHashTables", name := "isEntry", desc := "(I)Z" } : Jvm.MethodName) "TwinHashTables") ∈ lw_tbl := List.mem_append_right _ (List.mem_append_right _ (List.mem_append_left _ (List.mem_of_getElem? (i := 63) rfl)))
theorem ml_X2_43 : (Jvm.Cond.methodLink "TwinHashTables$Rows" (43 : Nat) ({ cls := "TwinHashTables$Rows", name := "entryAt", desc := "(II)I" } : Jvm.MethodName)) ∈ lw_tbl := List.mem_append_right _ (List.mem_append_right _ (List.mem_append_left _ (List.mem_of_getElem? (i := 64) rfl)))
theorem im_X2_entryAt : (Jvm.Cond.instanceMethod ({ cls := "TwinHashTables$Rows", name := "entryAt", desc := "(II)I" } : Jvm.MethodName)) ∈ lw_tbl := List.mem_append_right _ (List.mem_append_right _ (List.mem_append_left _ (List.mem_of_getElem? (i := 65) rfl)))
theorem se_X2_entryAt : (Jvm.Cond.selects "TwinHashTables$Rows" ({ cls := "TwinHashTables$Rows", name := "entryAt", desc := "(II)I" } : Jvm.MethodName) ({ cls := "TwinHashTables$Rows", name := "entryAt", desc := "(II)I" } : Jvm.MethodName)) ∈ lw_tbl := List.mem_append_right _ (List.mem_append_right _ (List.mem_append_left _ (List.mem_of_getElem? (i := 66) rfl)))
theorem cd_X2_entryAt : (Jvm.Cond.code ({ cls := "TwinHashTables$Rows", name := "entryAt", desc := "(II)I" } : Jvm.MethodName) prog_4_method_3_code (5 : Nat) (Option.some Jvm.ClassFile.FieldType.int)) ∈ lw_tbl := List.mem_append_right _ (List.mem_append_right _ (List.mem_append_left _ (List.mem_of_getElem? (i := 67) rfl)))
theorem ml_X4_45 : (Jvm.Cond.methodLink "TwinHashTables" (45 : Nat) ({ cls := "TwinHashTables$Store", name := "replaceValue", desc := "(II)I" } : Jvm.MethodName)) ∈ lw_tbl := List.mem_append_right _ (List.mem_append_right _ (List.mem_append_left _ (List.mem_of_getElem? (i := 68) rfl)))
theorem im_X3_replaceValue : (Jvm.Cond.instanceMethod ({ cls := "TwinHashTables$Store", name := "replaceValue", desc := "(II)I" } : Jvm.MethodName)) ∈ lw_tbl := List.mem_append_right _ (List.mem_append_right _ (List.mem_append_left _ (List.mem_of_getElem? (i := 69) rfl)))
theorem se_X3_replaceValue : (Jvm.Cond.selects "TwinHashTables$Store" ({ cls := "TwinHashTables$Store", name := "replaceValue", desc := "(II)I" } : Jvm.MethodName) ({ cls := "TwinHashTables$Store", name := "replaceValue", desc := "(II)I" } : Jvm.MethodName)) ∈ lw_tbl := List.mem_append_right _ (List.mem_append_right _ (List.mem_append_left _ (List.mem_of_getElem? (i := 70) rfl)))
theorem cd_X3_replaceValue : (Jvm.Cond.code ({ cls := "TwinHashTables$Store", name := "replaceValue", desc := "(II)I" } : Jvm.MethodName) prog_5_method_4_code (4 : Nat) (Option.some Jvm.ClassFile.FieldType.int)) ∈ lw_tbl := List.mem_append_right _ (List.mem_append_right _ (List.mem_append_left _ (List.mem_of_getElem? (i := 71) rfl)))
theorem ml_X3_32 : (Jvm.Cond.methodLink "TwinHashTables$Store" (32 : Nat) ({ cls := "TwinHashTables$Store", name := "valueOf", desc := "(I)I" } : Jvm.MethodName)) ∈ lw_tbl := List.mem_append_right _ (List.mem_append_right _ (List.mem_append_left _ (List.mem_of_getElem? (i := 72) rfl)))
theorem im_X3_valueOf : (Jvm.Cond.instanceMethod ({ cls := "TwinHashTables$Store", name := "valueOf", desc := "(I)I" } : Jvm.MethodName)) ∈ lw_tbl := List.mem_append_right _ (List.mem_append_right _ (List.mem_append_left _ (List.mem_of_getElem? (i := 73) rfl)))
theorem se_X3_valueOf : (Jvm.Cond.selects "TwinHashTables$Store" ({ cls := "TwinHashTables$Store", name := "valueOf", desc := "(I)I" } : Jvm.MethodName) ({ cls := "TwinHashTables$Store", name := "valueOf", desc := "(I)I" } : Jvm.MethodName)) ∈ lw_tbl := List.mem_append_right _ (List.mem_append_right _ (List.mem_append_left _ (List.mem_of_getElem? (i := 74) rfl)))
theorem cd_X3_valueOf : (Jvm.Cond.code ({ cls := "TwinHashTables$Store", name := "valueOf", desc := "(I)I" } : Jvm.MethodName) prog_5_method_3_code (2 : Nat) (Option.some Jvm.ClassFile.FieldType.int)) ∈ lw_tbl := List.mem_append_right _ (List.mem_append_right _ (List.mem_append_left _ (List.mem_of_getElem? (i := 75) rfl)))
theorem clk_X4_53 : (Jvm.Cond.classLink "TwinHashTables" (53 : Nat) "java/lang/IllegalStateException") ∈ lw_tbl := List.mem_append_right _ (List.mem_append_right _ (List.mem_append_left _ (List.mem_of_getElem? (i := 76) rfl)))
theorem inst_IllegalStateException : (Jvm.Cond.instantiable "java/lang/IllegalStateException" (6 : Nat)) ∈ lw_tbl := List.mem_append_right _ (List.mem_append_right _ (List.mem_append_left _ (List.mem_of_getElem? (i := 77) rfl)))
theorem cst_IllegalStateException_IllegalStateException : (Jvm.Cond.castable "java/lang/IllegalStateException" "java/lang/IllegalStateException") ∈ lw_tbl := List.mem_append_right _ (List.mem_append_right _ (List.mem_append_left _ (List.mem_of_getElem? (i := 78) rfl)))
theorem se_Throwable_fillInStackTrace_319 : (Jvm.Cond.selects "java/lang/IllegalStateException" ({ cls := "java/lang/Throwable", name := "fillInStackTrace", desc := "(I)Ljava/lang/Throwable;" } : Jvm.MethodName) ({ cls := "java/lang/Throwable", name := "fillInStackTrace", desc := "(I)Ljava/lang/Throwable;" } : Jvm.MethodName)) ∈ lw_tbl := List.mem_append_right _ (List.mem_append_right _ (List.mem_append_left _ (List.mem_of_getElem? (i := 79) rfl)))
theorem str_X4_55 : (Jvm.Cond.stringRef "TwinHashTables" (55 : Nat) "the store is full") ∈ lw_tbl := List.mem_append_right _ (List.mem_append_right _ (List.mem_append_left _ (List.mem_of_getElem? (i := 85) rfl)))
theorem ml_X4_57 : (Jvm.Cond.methodLink "TwinHashTables" (57 : Nat) ({ cls := "java/lang/IllegalStateException", name := "<init>", desc := "(Ljava/lang/String;)V" } : Jvm.MethodName)) ∈ lw_tbl := List.mem_append_right _ (List.mem_append_right _ (List.mem_append_left _ (List.mem_of_getElem? (i := 86) rfl)))
theorem im_IllegalStateException_init : (Jvm.Cond.instanceMethod ({ cls := "java/lang/IllegalStateException", name := "<init>", desc := "(Ljava/lang/String;)V" } : Jvm.MethodName)) ∈ lw_tbl := List.mem_append_right _ (List.mem_append_right _ (List.mem_append_left _ (List.mem_of_getElem? (i := 87) rfl)))
theorem cd_IllegalStateException_init : (Jvm.Cond.code ({ cls := "java/lang/IllegalStateException", name := "<init>", desc := "(Ljava/lang/String;)V" } : Jvm.MethodName) prog_10_method_2_code (2 : Nat) (Option.none : Option Jvm.ClassFile.FieldType)) ∈ lw_tbl := List.mem_append_right _ (List.mem_append_right _ (List.mem_append_left _ (List.mem_of_getElem? (i := 88) rfl)))
theorem ml_IllegalStateException_7 : (Jvm.Cond.methodLink "java/lang/IllegalStateException" (7 : Nat) ({ cls := "java/lang/RuntimeException", name := "<init>", desc := "(Ljava/lang/String;)V" } : Jvm.MethodName)) ∈ lw_tbl := List.mem_append_right _ (List.mem_append_right _ (List.mem_append_left _ (List.mem_of_getElem? (i := 89) rfl)))
theorem ml_X4_60 : (Jvm.Cond.methodLink "TwinHashTables" (60 : Nat) ({ cls := "TwinHashTables$Store", name := "take", desc := "(II)I" } : Jvm.MethodName)) ∈ lw_tbl := List.mem_append_right _ (List.mem_append_right _ (List.mem_append_left _ (List.mem_of_getElem? (i := 92) rfl)))
theorem im_X3_take : (Jvm.Cond.instanceMethod ({ cls := "TwinHashTables$Store", name := "take", desc := "(II)I" } : Jvm.MethodName)) ∈ lw_tbl := List.mem_append_right _ (List.mem_append_right _ (List.mem_append_left _ (List.mem_of_getElem? (i := 93) rfl)))
theorem se_X3_take : (Jvm.Cond.selects "TwinHashTables$Store" ({ cls := "TwinHashTables$Store", name := "take", desc := "(II)I" } : Jvm.MethodName) ({ cls := "TwinHashTables$Store", name := "take", desc := "(II)I" } : Jvm.MethodName)) ∈ lw_tbl := List.mem_append_right _ (List.mem_append_right _ (List.mem_append_left _ (List.mem_of_getElem? (i := 94) rfl)))
theorem cd_X3_take : (Jvm.Cond.code ({ cls := "TwinHashTables$Store", name := "take", desc := "(II)I" } : Jvm.MethodName) prog_5_method_5_code (5 : Nat) (Option.some Jvm.ClassFile.FieldType.int)) ∈ lw_tbl := List.mem_append_right _ (List.mem_append_right _ (List.mem_append_left _ (List.mem_of_getElem? (i := 95) rfl)))
theorem ml_X3_36 : (Jvm.Cond.methodLink "TwinHashTables$Store" (36 : Nat) ({ cls := "TwinHashTables$Store", name := "keyOf", desc := "(I)I" } : Jvm.MethodName)) ∈ lw_tbl := List.mem_append_right _ (List.mem_append_right _ (List.mem_append_left _ (List.mem_of_getElem? (i := 96) rfl)))
theorem ml_X4_63 : (Jvm.Cond.methodLink "TwinHashTables" (63 : Nat) ({ cls := "TwinHashTables", name := "insertIntoBoth", desc := "(I)V" } : Jvm.MethodName)) ∈ lw_tbl := List.mem_append_right _ (List.mem_append_right _ (List.mem_append_left _ (List.mem_of_getElem? (i := 97) rfl)))
theorem im_X4_insertIntoBoth : (Jvm.Cond.instanceMethod ({ cls := "TwinHashTables", name := "insertIntoBoth", desc := "(I)V" } : Jvm.MethodName)) ∈ lw_tbl := List.mem_append_right _ (List.mem_append_right _ (List.mem_append_left _ (List.mem_of_getElem? (i := 99) rfl)))
theorem cd_X4_insertIntoBoth : (Jvm.Cond.code ({ cls := "TwinHashTables", name := "insertIntoBoth", desc := "(I)V" } : Jvm.MethodName) prog_1_method_36_code (2 : Nat) (Option.none : Option Jvm.ClassFile.FieldType)) ∈ lw_tbl := List.mem_append_right _ (List.mem_append_right _ (List.mem_append_left _ (List.mem_of_getElem? (i := 100) rfl)))
theorem ml_X4_184 : (Jvm.Cond.methodLink "TwinHashTables" (184 : Nat) ({ cls := "TwinHashTables$Extendible", name := "insert", desc := "(I)V" } : Jvm.MethodName)) ∈ lw_tbl := List.mem_append_right _ (List.mem_append_right _ (List.mem_append_left _ (List.mem_of_getElem? (i := 101) rfl)))
theorem im_X0_insert : (Jvm.Cond.instanceMethod ({ cls := "TwinHashTables$Extendible", name := "insert", desc := "(I)V" } : Jvm.MethodName)) ∈ lw_tbl := List.mem_append_right _ (List.mem_append_right _ (List.mem_append_left _ (List.mem_of_getElem? (i := 102) rfl)))
theorem se_X0_insert : (Jvm.Cond.selects "TwinHashTables$Extendible" ({ cls := "TwinHashTables$Extendible", name := "insert", desc := "(I)V" } : Jvm.MethodName) ({ cls := "TwinHashTables$Extendible", name := "insert", desc := "(I)V" } : Jvm.MethodName)) ∈ lw_tbl := List.mem_append_right _ (List.mem_append_right _ (List.mem_append_left _ (List.mem_of_getElem? (i := 103) rfl)))
theorem cd_X0_insert : (Jvm.Cond.code ({ cls := "TwinHashTables$Extendible", name := "insert", desc := "(I)V" } : Jvm.MethodName) prog_2_method_10_code (4 : Nat) (Option.none : Option Jvm.ClassFile.FieldType)) ∈ lw_tbl := List.mem_append_right _ (List.mem_append_right _ (List.mem_append_left _ (List.mem_of_getElem? (i := 104) rfl)))
theorem ml_X0_75 : (Jvm.Cond.methodLink "TwinHashTables$Extendible" (75 : Nat) ({ cls := "TwinHashTables$Store", name := "keyOf", desc := "(I)I" } : Jvm.MethodName)) ∈ lw_tbl := List.mem_append_right _ (List.mem_append_right _ (List.mem_append_left _ (List.mem_of_getElem? (i := 105) rfl)))
theorem ml_X0_80 : (Jvm.Cond.methodLink "TwinHashTables$Extendible" (80 : Nat) ({ cls := "TwinHashTables$Rows", name := "count", desc := "(I)I" } : Jvm.MethodName)) ∈ lw_tbl := List.mem_append_right _ (List.mem_append_right _ (List.mem_append_left _ (List.mem_of_getElem? (i := 106) rfl)))
theorem ml_X0_86 : (Jvm.Cond.methodLink "TwinHashTables$Extendible" (86 : Nat) ({ cls := "TwinHashTables$Extendible", name := "splitBucket", desc := "(II)V" } : Jvm.MethodName)) ∈ lw_tbl := List.mem_append_right _ (List.mem_append_right _ (List.mem_append_left _ (List.mem_of_getElem? (i := 107) rfl)))
theorem im_X0_splitBucket : (Jvm.Cond.instanceMethod ({ cls := "TwinHashTables$Extendible", name := "splitBucket", desc := "(II)V" } : Jvm.MethodName)) ∈ lw_tbl := List.mem_append_right _ (List.mem_append_right _ (List.mem_append_left _ (List.mem_of_getElem? (i := 109) rfl)))
theorem cd_X0_splitBucket : (Jvm.Cond.code ({ cls := "TwinHashTables$Extendible", name := "splitBucket", desc := "(II)V" } : Jvm.MethodName) prog_2_method_13_code (3 : Nat) (Option.none : Option Jvm.ClassFile.FieldType)) ∈ lw_tbl := List.mem_append_right _ (List.mem_append_right _ (List.mem_append_left _ (List.mem_of_getElem? (i := 110) rfl)))
theorem ml_X0_111 : (Jvm.Cond.methodLink "TwinHashTables$Extendible" (111 : Nat) ({ cls := "TwinHashTables$Extendible", name := "doubleDirectory", desc := "()V" } : Jvm.MethodName)) ∈ lw_tbl := List.mem_append_right _ (List.mem_append_right _ (List.mem_append_left _ (List.mem_of_getElem? (i := 111) rfl)))
theorem im_X0_doubleDirectory : (Jvm.Cond.instanceMethod ({ cls := "TwinHashTables$Extendible", name := "doubleDirectory", desc := "()V" } : Jvm.MethodName)) ∈ lw_tbl := List.mem_append_right _ (List.mem_append_right _ (List.mem_append_left _ (List.mem_of_getElem? (i := 113) rfl)))
theorem cd_X0_doubleDirectory : (Jvm.Cond.code ({ cls := "TwinHashTables$Extendible", name := "doubleDirectory", desc := "()V" } : Jvm.MethodName) prog_2_method_16_code (3 : Nat) (Option.none : Option Jvm.ClassFile.FieldType)) ∈ lw_tbl := List.mem_append_right _ (List.mem_append_right _ (List.mem_append_left _ (List.mem_of_getElem? (i := 114) rfl)))
theorem ml_X0_105 : (Jvm.Cond.methodLink "TwinHashTables$Extendible" (105 : Nat) ({ cls := "TwinHashTables$Extendible", name := "setDepth", desc := "(II)V" } : Jvm.MethodName)) ∈ lw_tbl := List.mem_append_right _ (List.mem_append_right _ (List.mem_append_left _ (List.mem_of_getElem? (i := 115) rfl)))
theorem im_X0_setDepth : (Jvm.Cond.instanceMethod ({ cls := "TwinHashTables$Extendible", name := "setDepth", desc := "(II)V" } : Jvm.MethodName)) ∈ lw_tbl := List.mem_append_right _ (List.mem_append_right _ (List.mem_append_left _ (List.mem_of_getElem? (i := 117) rfl)))
theorem cd_X0_setDepth : (Jvm.Cond.code ({ cls := "TwinHashTables$Extendible", name := "setDepth", desc := "(II)V" } : Jvm.MethodName) prog_2_method_20_code (3 : Nat) (Option.none : Option Jvm.ClassFile.FieldType)) ∈ lw_tbl := List.mem_append_right _ (List.mem_append_right _ (List.mem_append_left _ (List.mem_of_getElem? (i := 118) rfl)))
theorem ml_X0_114 : (Jvm.Cond.methodLink "TwinHashTables$Extendible" (114 : Nat) ({ cls := "TwinHashTables$Extendible", name := "setDepths", desc := "(III)V" } : Jvm.MethodName)) ∈ lw_tbl := List.mem_append_right _ (List.mem_append_right _ (List.mem_append_left _ (List.mem_of_getElem? (i := 119) rfl)))
theorem im_X0_setDepths : (Jvm.Cond.instanceMethod ({ cls := "TwinHashTables$Extendible", name := "setDepths", desc := "(III)V" } : Jvm.MethodName)) ∈ lw_tbl := List.mem_append_right _ (List.mem_append_right _ (List.mem_append_left _ (List.mem_of_getElem? (i := 121) rfl)))
theorem cd_X0_setDepths : (Jvm.Cond.code ({ cls := "TwinHashTables$Extendible", name := "setDepths", desc := "(III)V" } : Jvm.MethodName) prog_2_method_19_code (6 : Nat) (Option.none : Option Jvm.ClassFile.FieldType)) ∈ lw_tbl := List.mem_append_right _ (List.mem_append_right _ (List.mem_append_left _ (List.mem_of_getElem? (i := 122) rfl)))
theorem ml_X0_118 : (Jvm.Cond.methodLink "TwinHashTables$Extendible" (118 : Nat) ({ cls := "TwinHashTables$Rows", name := "deal", desc := "(IIII)V" } : Jvm.MethodName)) ∈ lw_tbl := List.mem_append_right _ (List.mem_append_right _ (List.mem_append_left _ (List.mem_of_getElem? (i := 123) rfl)))
theorem im_X2_deal : (Jvm.Cond.instanceMethod ({ cls := "TwinHashTables$Rows", name := "deal", desc := "(IIII)V" } : Jvm.MethodName)) ∈ lw_tbl := List.mem_append_right _ (List.mem_append_right _ (List.mem_append_left _ (List.mem_of_getElem? (i := 124) rfl)))
theorem se_X2_deal : (Jvm.Cond.selects "TwinHashTables$Rows" ({ cls := "TwinHashTables$Rows", name := "deal", desc := "(IIII)V" } : Jvm.MethodName) ({ cls := "TwinHashTables$Rows", name := "deal", desc := "(IIII)V" } : Jvm.MethodName)) ∈ lw_tbl := List.mem_append_right _ (List.mem_append_right _ (List.mem_append_left _ (List.mem_of_getElem? (i := 125) rfl)))
theorem cd_X2_deal : (Jvm.Cond.code ({ cls := "TwinHashTables$Rows", name := "deal", desc := "(IIII)V" } : Jvm.MethodName) prog_4_method_8_code (9 : Nat) (Option.none : Option Jvm.ClassFile.FieldType)) ∈ lw_tbl := List.mem_append_right _ (List.mem_append_right _ (List.mem_append_left _ (List.mem_of_getElem? (i := 126) rfl)))
theorem ml_X2_59 : (Jvm.Cond.methodLink "TwinHashTables$Rows" (59 : Nat) ({ cls := "TwinHashTables$Rows", name := "empty", desc := "(I)V" } : Jvm.MethodName)) ∈ lw_tbl := List.mem_append_right _ (List.mem_append_right _ (List.mem_append_left _ (List.mem_of_getElem? (i := 127) rfl)))
theorem im_X2_empty : (Jvm.Cond.instanceMethod ({ cls := "TwinHashTables$Rows", name := "empty", desc := "(I)V" } : Jvm.MethodName)) ∈ lw_tbl := List.mem_append_right _ (List.mem_append_right _ (List.mem_append_left _ (List.mem_of_getElem? (i := 129) rfl)))
theorem cd_X2_empty : (Jvm.Cond.code ({ cls := "TwinHashTables$Rows", name := "empty", desc := "(I)V" } : Jvm.MethodName) prog_4_method_17_code (2 : Nat) (Option.none : Option Jvm.ClassFile.FieldType)) ∈ lw_tbl := List.mem_append_right _ (List.mem_append_right _ (List.mem_append_left _ (List.mem_of_getElem? (i := 130) rfl)))
theorem mn_X2_68 : (Jvm.Cond.methodLinkNest "TwinHashTables$Rows" (68 : Nat) ({ cls := "TwinHashTables", name := "hash", desc := "(I)I" } : Jvm.MethodName) "TwinHashTables") ∈ lw_tbl := List.mem_append_right _ (List.mem_append_right _ (List.mem_append_left _ (List.mem_of_getElem? (i := 131) rfl)))
theorem mn_X2_71 : (Jvm.Cond.methodLinkNest "TwinHashTables$Rows" (71 : Nat) ({ cls := "TwinHashTables", name := "bitAt", desc := "(II)I" } : Jvm.MethodName) "TwinHashTables") ∈ lw_tbl := List.mem_append_right _ (List.mem_append_right _ (List.mem_append_left _ (List.mem_of_getElem? (i := 132) rfl)))
theorem sm_X4_bitAt : (Jvm.Cond.static ({ cls := "TwinHashTables", name := "bitAt", desc := "(II)I" } : Jvm.MethodName)) ∈ lw_tbl := List.mem_append_right _ (List.mem_append_right _ (List.mem_append_left _ (List.mem_of_getElem? (i := 133) rfl)))
theorem cd_X4_bitAt : (Jvm.Cond.code ({ cls := "TwinHashTables", name := "bitAt", desc := "(II)I" } : Jvm.MethodName) prog_1_method_46_code (2 : Nat) (Option.some Jvm.ClassFile.FieldType.int)) ∈ lw_tbl := List.mem_append_right _ (List.mem_append_right _ (List.mem_append_left _ (List.mem_of_getElem? (i := 134) rfl)))
theorem ml_X2_74 : (Jvm.Cond.methodLink "TwinHashTables$Rows" (74 : Nat) ({ cls := "TwinHashTables$Rows", name := "append", desc := "(II)V" } : Jvm.MethodName)) ∈ lw_tbl := List.mem_append_right _ (List.mem_append_right _ (List.mem_append_left _ (List.mem_of_getElem? (i := 135) rfl)))
theorem im_X2_append : (Jvm.Cond.instanceMethod ({ cls := "TwinHashTables$Rows", name := "append", desc := "(II)V" } : Jvm.MethodName)) ∈ lw_tbl := List.mem_append_right _ (List.mem_append_right _ (List.mem_append_left _ (List.mem_of_getElem? (i := 136) rfl)))
theorem se_X2_append : (Jvm.Cond.selects "TwinHashTables$Rows" ({ cls := "TwinHashTables$Rows", name := "append", desc := "(II)V" } : Jvm.MethodName) ({ cls := "TwinHashTables$Rows", name := "append", desc := "(II)V" } : Jvm.MethodName)) ∈ lw_tbl := List.mem_append_right _ (List.mem_append_right _ (List.mem_append_left _ (List.mem_of_getElem? (i := 137) rfl)))
theorem cd_X2_append : (Jvm.Cond.code ({ cls := "TwinHashTables$Rows", name := "append", desc := "(II)V" } : Jvm.MethodName) prog_4_method_5_code (4 : Nat) (Option.none : Option Jvm.ClassFile.FieldType)) ∈ lw_tbl := List.mem_append_right _ (List.mem_append_right _ (List.mem_append_left _ (List.mem_of_getElem? (i := 138) rfl)))
theorem ml_X0_90 : (Jvm.Cond.methodLink "TwinHashTables$Extendible" (90 : Nat) ({ cls := "TwinHashTables$Rows", name := "append", desc := "(II)V" } : Jvm.MethodName)) ∈ lw_tbl := List.mem_append_right _ (List.mem_append_right _ (List.mem_append_left _ (List.mem_of_getElem? (i := 139) rfl)))
theorem ml_X4_187 : (Jvm.Cond.methodLink "TwinHashTables" (187 : Nat) ({ cls := "TwinHashTables$Linear", name := "insert", desc := "(I)V" } : Jvm.MethodName)) ∈ lw_tbl := List.mem_append_right _ (List.mem_append_right _ (List.mem_append_left _ (List.mem_of_getElem? (i := 140) rfl)))
theorem im_X1_insert : (Jvm.Cond.instanceMethod ({ cls := "TwinHashTables$Linear", name := "insert", desc := "(I)V" } : Jvm.MethodName)) ∈ lw_tbl := List.mem_append_right _ (List.mem_append_right _ (List.mem_append_left _ (List.mem_of_getElem? (i := 141) rfl)))
theorem se_X1_insert : (Jvm.Cond.selects "TwinHashTables$Linear" ({ cls := "TwinHashTables$Linear", name := "insert", desc := "(I)V" } : Jvm.MethodName) ({ cls := "TwinHashTables$Linear", name := "insert", desc := "(I)V" } : Jvm.MethodName)) ∈ lw_tbl := List.mem_append_right _ (List.mem_append_right _ (List.mem_append_left _ (List.mem_of_getElem? (i := 142) rfl)))
theorem cd_X1_insert : (Jvm.Cond.code ({ cls := "TwinHashTables$Linear", name := "insert", desc := "(I)V" } : Jvm.MethodName) prog_3_method_5_code (3 : Nat) (Option.none : Option Jvm.ClassFile.FieldType)) ∈ lw_tbl := List.mem_append_right _ (List.mem_append_right _ (List.mem_append_left _ (List.mem_of_getElem? (i := 143) rfl)))
theorem ml_X1_54 : (Jvm.Cond.methodLink "TwinHashTables$Linear" (54 : Nat) ({ cls := "TwinHashTables$Store", name := "keyOf", desc := "(I)I" } : Jvm.MethodName)) ∈ lw_tbl := List.mem_append_right _ (List.mem_append_right _ (List.mem_append_left _ (List.mem_of_getElem? (i := 144) rfl)))
theorem ml_X1_48 : (Jvm.Cond.methodLink "TwinHashTables$Linear" (48 : Nat) ({ cls := "TwinHashTables$Linear", name := "rowFor", desc := "(I)I" } : Jvm.MethodName)) ∈ lw_tbl := List.mem_append_right _ (List.mem_append_right _ (List.mem_append_left _ (List.mem_of_getElem? (i := 145) rfl)))
theorem im_X1_rowFor : (Jvm.Cond.instanceMethod ({ cls := "TwinHashTables$Linear", name := "rowFor", desc := "(I)I" } : Jvm.MethodName)) ∈ lw_tbl := List.mem_append_right _ (List.mem_append_right _ (List.mem_append_left _ (List.mem_of_getElem? (i := 146) rfl)))
theorem se_X1_rowFor : (Jvm.Cond.selects "TwinHashTables$Linear" ({ cls := "TwinHashTables$Linear", name := "rowFor", desc := "(I)I" } : Jvm.MethodName) ({ cls := "TwinHashTables$Linear", name := "rowFor", desc := "(I)I" } : Jvm.MethodName)) ∈ lw_tbl := List.mem_append_right _ (List.mem_append_right _ (List.mem_append_left _ (List.mem_of_getElem? (i := 147) rfl)))
theorem cd_X1_rowFor : (Jvm.Cond.code ({ cls := "TwinHashTables$Linear", name := "rowFor", desc := "(I)I" } : Jvm.MethodName) prog_3_method_3_code (3 : Nat) (Option.some Jvm.ClassFile.FieldType.int)) ∈ lw_tbl := List.mem_append_right _ (List.mem_append_right _ (List.mem_append_left _ (List.mem_of_getElem? (i := 148) rfl)))
theorem mn_X1_40 : (Jvm.Cond.methodLinkNest "TwinHashTables$Linear" (40 : Nat) ({ cls := "TwinHashTables", name := "hash", desc := "(I)I" } : Jvm.MethodName) "TwinHashTables") ∈ lw_tbl := List.mem_append_right _ (List.mem_append_right _ (List.mem_append_left _ (List.mem_of_getElem? (i := 149) rfl)))
theorem mn_X1_44 : (Jvm.Cond.methodLinkNest "TwinHashTables$Linear" (44 : Nat) ({ cls := "TwinHashTables", name := "lowBits", desc := "(II)I" } : Jvm.MethodName) "TwinHashTables") ∈ lw_tbl := List.mem_append_right _ (List.mem_append_right _ (List.mem_append_left _ (List.mem_of_getElem? (i := 150) rfl)))
theorem ml_X1_59 : (Jvm.Cond.methodLink "TwinHashTables$Linear" (59 : Nat) ({ cls := "TwinHashTables$Rows", name := "append", desc := "(II)V" } : Jvm.MethodName)) ∈ lw_tbl := List.mem_append_right _ (List.mem_append_right _ (List.mem_append_left _ (List.mem_of_getElem? (i := 151) rfl)))
theorem ml_X1_63 : (Jvm.Cond.methodLink "TwinHashTables$Linear" (63 : Nat) ({ cls := "TwinHashTables$Linear", name := "countBuckets", desc := "()I" } : Jvm.MethodName)) ∈ lw_tbl := List.mem_append_right _ (List.mem_append_right _ (List.mem_append_left _ (List.mem_of_getElem? (i := 152) rfl)))
theorem im_X1_countBuckets : (Jvm.Cond.instanceMethod ({ cls := "TwinHashTables$Linear", name := "countBuckets", desc := "()I" } : Jvm.MethodName)) ∈ lw_tbl := List.mem_append_right _ (List.mem_append_right _ (List.mem_append_left _ (List.mem_of_getElem? (i := 153) rfl)))
theorem se_X1_countBuckets : (Jvm.Cond.selects "TwinHashTables$Linear" ({ cls := "TwinHashTables$Linear", name := "countBuckets", desc := "()I" } : Jvm.MethodName) ({ cls := "TwinHashTables$Linear", name := "countBuckets", desc := "()I" } : Jvm.MethodName)) ∈ lw_tbl := List.mem_append_right _ (List.mem_append_right _ (List.mem_append_left _ (List.mem_of_getElem? (i := 154) rfl)))
theorem cd_X1_countBuckets : (Jvm.Cond.code ({ cls := "TwinHashTables$Linear", name := "countBuckets", desc := "()I" } : Jvm.MethodName) prog_3_method_2_code (1 : Nat) (Option.some Jvm.ClassFile.FieldType.int)) ∈ lw_tbl := List.mem_append_right _ (List.mem_append_right _ (List.mem_append_left _ (List.mem_of_getElem? (i := 155) rfl)))
theorem ml_X1_70 : (Jvm.Cond.methodLink "TwinHashTables$Linear" (70 : Nat) ({ cls := "TwinHashTables$Linear", name := "fullAt", desc := "(II)I" } : Jvm.MethodName)) ∈ lw_tbl := List.mem_append_right _ (List.mem_append_right _ (List.mem_append_left _ (List.mem_of_getElem? (i := 156) rfl)))
theorem im_X1_fullAt : (Jvm.Cond.instanceMethod ({ cls := "TwinHashTables$Linear", name := "fullAt", desc := "(II)I" } : Jvm.MethodName)) ∈ lw_tbl := List.mem_append_right _ (List.mem_append_right _ (List.mem_append_left _ (List.mem_of_getElem? (i := 158) rfl)))
theorem cd_X1_fullAt : (Jvm.Cond.code ({ cls := "TwinHashTables$Linear", name := "fullAt", desc := "(II)I" } : Jvm.MethodName) prog_3_method_8_code (3 : Nat) (Option.some Jvm.ClassFile.FieldType.int)) ∈ lw_tbl := List.mem_append_right _ (List.mem_append_right _ (List.mem_append_left _ (List.mem_of_getElem? (i := 159) rfl)))
theorem ml_X1_73 : (Jvm.Cond.methodLink "TwinHashTables$Linear" (73 : Nat) ({ cls := "TwinHashTables$Linear", name := "splitNext", desc := "()V" } : Jvm.MethodName)) ∈ lw_tbl := List.mem_append_right _ (List.mem_append_right _ (List.mem_append_left _ (List.mem_of_getElem? (i := 160) rfl)))
theorem im_X1_splitNext : (Jvm.Cond.instanceMethod ({ cls := "TwinHashTables$Linear", name := "splitNext", desc := "()V" } : Jvm.MethodName)) ∈ lw_tbl := List.mem_append_right _ (List.mem_append_right _ (List.mem_append_left _ (List.mem_of_getElem? (i := 162) rfl)))
theorem cd_X1_splitNext : (Jvm.Cond.code ({ cls := "TwinHashTables$Linear", name := "splitNext", desc := "()V" } : Jvm.MethodName) prog_3_method_9_code (1 : Nat) (Option.none : Option Jvm.ClassFile.FieldType)) ∈ lw_tbl := List.mem_append_right _ (List.mem_append_right _ (List.mem_append_left _ (List.mem_of_getElem? (i := 163) rfl)))
theorem ml_X1_88 : (Jvm.Cond.methodLink "TwinHashTables$Linear" (88 : Nat) ({ cls := "TwinHashTables$Rows", name := "deal", desc := "(IIII)V" } : Jvm.MethodName)) ∈ lw_tbl := List.mem_append_right _ (List.mem_append_right _ (List.mem_append_left _ (List.mem_of_getElem? (i := 164) rfl)))
theorem ml_L_59 : (Jvm.Cond.methodLink "TwinHashTablesLaw" (59 : Nat) ({ cls := "TwinHashTablesLaw", name := "rebuilt", desc := "(LTwinHashTables;I)I" } : Jvm.MethodName)) ∈ lw_tbl := List.mem_append_right _ (List.mem_append_right _ (List.mem_append_left _ (List.mem_of_getElem? (i := 165) rfl)))
theorem sm_L_rebuilt : (Jvm.Cond.static ({ cls := "TwinHashTablesLaw", name := "rebuilt", desc := "(LTwinHashTables;I)I" } : Jvm.MethodName)) ∈ lw_tbl := List.mem_append_right _ (List.mem_append_right _ (List.mem_append_left _ (List.mem_of_getElem? (i := 166) rfl)))
theorem cw_L_rebuilt : (Jvm.Cond.codeWith ({ cls := "TwinHashTablesLaw", name := "rebuilt", desc := "(LTwinHashTables;I)I" } : Jvm.MethodName) method_5_code (3 : Nat) (Option.some Jvm.ClassFile.FieldType.int) [((0 : Nat), (5 : Nat), (6 : Nat), (14 : Nat))]) ∈ lw_tbl := List.mem_append_right _ (List.mem_append_right _ (List.mem_append_left _ (List.mem_of_getElem? (i := 167) rfl)))
theorem ml_L_22 : (Jvm.Cond.methodLink "TwinHashTablesLaw" (22 : Nat) ({ cls := "TwinHashTables", name := "rebuild", desc := "(I)I" } : Jvm.MethodName)) ∈ lw_tbl := List.mem_append_right _ (List.mem_append_right _ (List.mem_append_left _ (List.mem_of_getElem? (i := 168) rfl)))
theorem im_X4_rebuild : (Jvm.Cond.instanceMethod ({ cls := "TwinHashTables", name := "rebuild", desc := "(I)I" } : Jvm.MethodName)) ∈ lw_tbl := List.mem_append_right _ (List.mem_append_right _ (List.mem_append_left _ (List.mem_of_getElem? (i := 169) rfl)))
theorem se_X4_rebuild : (Jvm.Cond.selects "TwinHashTables" ({ cls := "TwinHashTables", name := "rebuild", desc := "(I)I" } : Jvm.MethodName) ({ cls := "TwinHashTables", name := "rebuild", desc := "(I)I" } : Jvm.MethodName)) ∈ lw_tbl := List.mem_append_right _ (List.mem_append_right _ (List.mem_append_left _ (List.mem_of_getElem? (i := 170) rfl)))
theorem cd_X4_rebuild : (Jvm.Cond.code ({ cls := "TwinHashTables", name := "rebuild", desc := "(I)I" } : Jvm.MethodName) prog_1_method_8_code (5 : Nat) (Option.some Jvm.ClassFile.FieldType.int)) ∈ lw_tbl := List.mem_append_right _ (List.mem_append_right _ (List.mem_append_left _ (List.mem_of_getElem? (i := 171) rfl)))
theorem ml_X4_80 : (Jvm.Cond.methodLink "TwinHashTables" (80 : Nat) ({ cls := "TwinHashTables", name := "emptyAll", desc := "()V" } : Jvm.MethodName)) ∈ lw_tbl := List.mem_append_right _ (List.mem_append_right _ (List.mem_append_left _ (List.mem_of_getElem? (i := 172) rfl)))
theorem im_X4_emptyAll : (Jvm.Cond.instanceMethod ({ cls := "TwinHashTables", name := "emptyAll", desc := "()V" } : Jvm.MethodName)) ∈ lw_tbl := List.mem_append_right _ (List.mem_append_right _ (List.mem_append_left _ (List.mem_of_getElem? (i := 174) rfl)))
theorem cd_X4_emptyAll : (Jvm.Cond.code ({ cls := "TwinHashTables", name := "emptyAll", desc := "()V" } : Jvm.MethodName) prog_1_method_37_code (1 : Nat) (Option.none : Option Jvm.ClassFile.FieldType)) ∈ lw_tbl := List.mem_append_right _ (List.mem_append_right _ (List.mem_append_left _ (List.mem_of_getElem? (i := 175) rfl)))
theorem ml_X4_188 : (Jvm.Cond.methodLink "TwinHashTables" (188 : Nat) ({ cls := "TwinHashTables$Store", name := "releaseAll", desc := "()V" } : Jvm.MethodName)) ∈ lw_tbl := List.mem_append_right _ (List.mem_append_right _ (List.mem_append_left _ (List.mem_of_getElem? (i := 176) rfl)))
theorem im_X3_releaseAll : (Jvm.Cond.instanceMethod ({ cls := "TwinHashTables$Store", name := "releaseAll", desc := "()V" } : Jvm.MethodName)) ∈ lw_tbl := List.mem_append_right _ (List.mem_append_right _ (List.mem_append_left _ (List.mem_of_getElem? (i := 177) rfl)))
theorem se_X3_releaseAll : (Jvm.Cond.selects "TwinHashTables$Store" ({ cls := "TwinHashTables$Store", name := "releaseAll", desc := "()V" } : Jvm.MethodName) ({ cls := "TwinHashTables$Store", name := "releaseAll", desc := "()V" } : Jvm.MethodName)) ∈ lw_tbl := List.mem_append_right _ (List.mem_append_right _ (List.mem_append_left _ (List.mem_of_getElem? (i := 178) rfl)))
theorem cd_X3_releaseAll : (Jvm.Cond.code ({ cls := "TwinHashTables$Store", name := "releaseAll", desc := "()V" } : Jvm.MethodName) prog_5_method_8_code (1 : Nat) (Option.none : Option Jvm.ClassFile.FieldType)) ∈ lw_tbl := List.mem_append_right _ (List.mem_append_right _ (List.mem_append_left _ (List.mem_of_getElem? (i := 179) rfl)))
theorem ml_X4_191 : (Jvm.Cond.methodLink "TwinHashTables" (191 : Nat) ({ cls := "TwinHashTables$Extendible", name := "reset", desc := "()V" } : Jvm.MethodName)) ∈ lw_tbl := List.mem_append_right _ (List.mem_append_right _ (List.mem_append_left _ (List.mem_of_getElem? (i := 180) rfl)))
theorem im_X0_reset : (Jvm.Cond.instanceMethod ({ cls := "TwinHashTables$Extendible", name := "reset", desc := "()V" } : Jvm.MethodName)) ∈ lw_tbl := List.mem_append_right _ (List.mem_append_right _ (List.mem_append_left _ (List.mem_of_getElem? (i := 181) rfl)))
theorem se_X0_reset : (Jvm.Cond.selects "TwinHashTables$Extendible" ({ cls := "TwinHashTables$Extendible", name := "reset", desc := "()V" } : Jvm.MethodName) ({ cls := "TwinHashTables$Extendible", name := "reset", desc := "()V" } : Jvm.MethodName)) ∈ lw_tbl := List.mem_append_right _ (List.mem_append_right _ (List.mem_append_left _ (List.mem_of_getElem? (i := 182) rfl)))
theorem cd_X0_reset : (Jvm.Cond.code ({ cls := "TwinHashTables$Extendible", name := "reset", desc := "()V" } : Jvm.MethodName) prog_2_method_12_code (1 : Nat) (Option.none : Option Jvm.ClassFile.FieldType)) ∈ lw_tbl := List.mem_append_right _ (List.mem_append_right _ (List.mem_append_left _ (List.mem_of_getElem? (i := 183) rfl)))
theorem ml_X0_108 : (Jvm.Cond.methodLink "TwinHashTables$Extendible" (108 : Nat) ({ cls := "TwinHashTables$Rows", name := "emptyAllRows", desc := "()V" } : Jvm.MethodName)) ∈ lw_tbl := List.mem_append_right _ (List.mem_append_right _ (List.mem_append_left _ (List.mem_of_getElem? (i := 184) rfl)))
theorem im_X2_emptyAllRows : (Jvm.Cond.instanceMethod ({ cls := "TwinHashTables$Rows", name := "emptyAllRows", desc := "()V" } : Jvm.MethodName)) ∈ lw_tbl := List.mem_append_right _ (List.mem_append_right _ (List.mem_append_left _ (List.mem_of_getElem? (i := 185) rfl)))
theorem se_X2_emptyAllRows : (Jvm.Cond.selects "TwinHashTables$Rows" ({ cls := "TwinHashTables$Rows", name := "emptyAllRows", desc := "()V" } : Jvm.MethodName) ({ cls := "TwinHashTables$Rows", name := "emptyAllRows", desc := "()V" } : Jvm.MethodName)) ∈ lw_tbl := List.mem_append_right _ (List.mem_append_right _ (List.mem_append_left _ (List.mem_of_getElem? (i := 186) rfl)))
theorem cd_X2_emptyAllRows : (Jvm.Cond.code ({ cls := "TwinHashTables$Rows", name := "emptyAllRows", desc := "()V" } : Jvm.MethodName) prog_4_method_9_code (2 : Nat) (Option.none : Option Jvm.ClassFile.FieldType)) ∈ lw_tbl := List.mem_append_right _ (List.mem_append_right _ (List.mem_append_left _ (List.mem_of_getElem? (i := 187) rfl)))
theorem ml_X4_194 : (Jvm.Cond.methodLink "TwinHashTables" (194 : Nat) ({ cls := "TwinHashTables$Linear", name := "reset", desc := "()V" } : Jvm.MethodName)) ∈ lw_tbl := List.mem_append_right _ (List.mem_append_right _ (List.mem_append_left _ (List.mem_of_getElem? (i := 188) rfl)))
theorem im_X1_reset : (Jvm.Cond.instanceMethod ({ cls := "TwinHashTables$Linear", name := "reset", desc := "()V" } : Jvm.MethodName)) ∈ lw_tbl := List.mem_append_right _ (List.mem_append_right _ (List.mem_append_left _ (List.mem_of_getElem? (i := 189) rfl)))
theorem se_X1_reset : (Jvm.Cond.selects "TwinHashTables$Linear" ({ cls := "TwinHashTables$Linear", name := "reset", desc := "()V" } : Jvm.MethodName) ({ cls := "TwinHashTables$Linear", name := "reset", desc := "()V" } : Jvm.MethodName)) ∈ lw_tbl := List.mem_append_right _ (List.mem_append_right _ (List.mem_append_left _ (List.mem_of_getElem? (i := 190) rfl)))
theorem cd_X1_reset : (Jvm.Cond.code ({ cls := "TwinHashTables$Linear", name := "reset", desc := "()V" } : Jvm.MethodName) prog_3_method_7_code (1 : Nat) (Option.none : Option Jvm.ClassFile.FieldType)) ∈ lw_tbl := List.mem_append_right _ (List.mem_append_right _ (List.mem_append_left _ (List.mem_of_getElem? (i := 191) rfl)))
theorem ml_X1_82 : (Jvm.Cond.methodLink "TwinHashTables$Linear" (82 : Nat) ({ cls := "TwinHashTables$Rows", name := "emptyAllRows", desc := "()V" } : Jvm.MethodName)) ∈ lw_tbl := List.mem_append_right _ (List.mem_append_right _ (List.mem_append_left _ (List.mem_of_getElem? (i := 192) rfl)))
theorem ml_X4_86 : (Jvm.Cond.methodLink "TwinHashTables" (86 : Nat) ({ cls := "TwinHashTables$Store", name := "takeAgain", desc := "()I" } : Jvm.MethodName)) ∈ lw_tbl := List.mem_append_right _ (List.mem_append_right _ (List.mem_append_left _ (List.mem_of_getElem? (i := 193) rfl)))
theorem im_X3_takeAgain : (Jvm.Cond.instanceMethod ({ cls := "TwinHashTables$Store", name := "takeAgain", desc := "()I" } : Jvm.MethodName)) ∈ lw_tbl := List.mem_append_right _ (List.mem_append_right _ (List.mem_append_left _ (List.mem_of_getElem? (i := 194) rfl)))
theorem se_X3_takeAgain : (Jvm.Cond.selects "TwinHashTables$Store" ({ cls := "TwinHashTables$Store", name := "takeAgain", desc := "()I" } : Jvm.MethodName) ({ cls := "TwinHashTables$Store", name := "takeAgain", desc := "()I" } : Jvm.MethodName)) ∈ lw_tbl := List.mem_append_right _ (List.mem_append_right _ (List.mem_append_left _ (List.mem_of_getElem? (i := 195) rfl)))
theorem cd_X3_takeAgain : (Jvm.Cond.code ({ cls := "TwinHashTables$Store", name := "takeAgain", desc := "()I" } : Jvm.MethodName) prog_5_method_6_code (2 : Nat) (Option.some Jvm.ClassFile.FieldType.int)) ∈ lw_tbl := List.mem_append_right _ (List.mem_append_right _ (List.mem_append_left _ (List.mem_of_getElem? (i := 196) rfl)))
theorem ml_L_71 : (Jvm.Cond.methodLink "TwinHashTablesLaw" (71 : Nat) ({ cls := "TwinHashTablesLaw", name := "next", desc := "(LTwinHashTables;I)I" } : Jvm.MethodName)) ∈ lw_tbl := List.mem_append_right _ (List.mem_append_right _ (List.mem_append_left _ (List.mem_of_getElem? (i := 197) rfl)))
theorem sm_L_next : (Jvm.Cond.static ({ cls := "TwinHashTablesLaw", name := "next", desc := "(LTwinHashTables;I)I" } : Jvm.MethodName)) ∈ lw_tbl := List.mem_append_right _ (List.mem_append_right _ (List.mem_append_left _ (List.mem_of_getElem? (i := 198) rfl)))
theorem cw_L_next : (Jvm.Cond.codeWith ({ cls := "TwinHashTablesLaw", name := "next", desc := "(LTwinHashTables;I)I" } : Jvm.MethodName) method_7_code (3 : Nat) (Option.some Jvm.ClassFile.FieldType.int) [((0 : Nat), (5 : Nat), (6 : Nat), (14 : Nat))]) ∈ lw_tbl := List.mem_append_right _ (List.mem_append_right _ (List.mem_append_left _ (List.mem_of_getElem? (i := 199) rfl)))
theorem ml_L_28 : (Jvm.Cond.methodLink "TwinHashTablesLaw" (28 : Nat) ({ cls := "TwinHashTables", name := "nextCursor", desc := "(I)I" } : Jvm.MethodName)) ∈ lw_tbl := List.mem_append_right _ (List.mem_append_right _ (List.mem_append_left _ (List.mem_of_getElem? (i := 200) rfl)))
theorem im_X4_nextCursor : (Jvm.Cond.instanceMethod ({ cls := "TwinHashTables", name := "nextCursor", desc := "(I)I" } : Jvm.MethodName)) ∈ lw_tbl := List.mem_append_right _ (List.mem_append_right _ (List.mem_append_left _ (List.mem_of_getElem? (i := 201) rfl)))
theorem se_X4_nextCursor : (Jvm.Cond.selects "TwinHashTables" ({ cls := "TwinHashTables", name := "nextCursor", desc := "(I)I" } : Jvm.MethodName) ({ cls := "TwinHashTables", name := "nextCursor", desc := "(I)I" } : Jvm.MethodName)) ∈ lw_tbl := List.mem_append_right _ (List.mem_append_right _ (List.mem_append_left _ (List.mem_of_getElem? (i := 202) rfl)))
theorem cd_X4_nextCursor : (Jvm.Cond.code ({ cls := "TwinHashTables", name := "nextCursor", desc := "(I)I" } : Jvm.MethodName) prog_1_method_25_code (4 : Nat) (Option.some Jvm.ClassFile.FieldType.int)) ∈ lw_tbl := List.mem_append_right _ (List.mem_append_right _ (List.mem_append_left _ (List.mem_of_getElem? (i := 203) rfl)))
theorem ml_X4_113 : (Jvm.Cond.methodLink "TwinHashTables" (113 : Nat) ({ cls := "TwinHashTables$Extendible", name := "depthAt", desc := "(I)I" } : Jvm.MethodName)) ∈ lw_tbl := List.mem_append_right _ (List.mem_append_right _ (List.mem_append_left _ (List.mem_of_getElem? (i := 204) rfl)))
theorem ml_X4_165 : (Jvm.Cond.methodLink "TwinHashTables" (165 : Nat) ({ cls := "TwinHashTables", name := "reverseBits", desc := "(II)I" } : Jvm.MethodName)) ∈ lw_tbl := List.mem_append_right _ (List.mem_append_right _ (List.mem_append_left _ (List.mem_of_getElem? (i := 205) rfl)))
theorem sm_X4_reverseBits : (Jvm.Cond.static ({ cls := "TwinHashTables", name := "reverseBits", desc := "(II)I" } : Jvm.MethodName)) ∈ lw_tbl := List.mem_append_right _ (List.mem_append_right _ (List.mem_append_left _ (List.mem_of_getElem? (i := 206) rfl)))
theorem cd_X4_reverseBits : (Jvm.Cond.code ({ cls := "TwinHashTables", name := "reverseBits", desc := "(II)I" } : Jvm.MethodName) prog_1_method_47_code (4 : Nat) (Option.some Jvm.ClassFile.FieldType.int)) ∈ lw_tbl := List.mem_append_right _ (List.mem_append_right _ (List.mem_append_left _ (List.mem_of_getElem? (i := 207) rfl)))
theorem ml_X4_213 : (Jvm.Cond.methodLink "TwinHashTables" (213 : Nat) ({ cls := "TwinHashTables", name := "bitAt", desc := "(II)I" } : Jvm.MethodName)) ∈ lw_tbl := List.mem_append_right _ (List.mem_append_right _ (List.mem_append_left _ (List.mem_of_getElem? (i := 208) rfl)))
theorem ml_L_67 : (Jvm.Cond.methodLink "TwinHashTablesLaw" (67 : Nat) ({ cls := "TwinHashTablesLaw", name := "looks", desc := "(LTwinHashTables;[I[II)Z" } : Jvm.MethodName)) ∈ lw_tbl := List.mem_append_right _ (List.mem_append_right _ (List.mem_append_left _ (List.mem_of_getElem? (i := 209) rfl)))
theorem sm_L_looks : (Jvm.Cond.static ({ cls := "TwinHashTablesLaw", name := "looks", desc := "(LTwinHashTables;[I[II)Z" } : Jvm.MethodName)) ∈ lw_tbl := List.mem_append_right _ (List.mem_append_right _ (List.mem_append_left _ (List.mem_of_getElem? (i := 210) rfl)))
theorem cd_L_looks : (Jvm.Cond.code ({ cls := "TwinHashTablesLaw", name := "looks", desc := "(LTwinHashTables;[I[II)Z" } : Jvm.MethodName) method_11_code (9 : Nat) (Option.some Jvm.ClassFile.FieldType.boolean)) ∈ lw_tbl := List.mem_append_right _ (List.mem_append_right _ (List.mem_append_left _ (List.mem_of_getElem? (i := 211) rfl)))
theorem ml_L_39 : (Jvm.Cond.methodLink "TwinHashTablesLaw" (39 : Nat) ({ cls := "TwinHashTablesLaw", name := "slotAt", desc := "(LTwinHashTables;I)I" } : Jvm.MethodName)) ∈ lw_tbl := List.mem_append_right _ (List.mem_append_right _ (List.mem_append_left _ (List.mem_of_getElem? (i := 212) rfl)))
theorem sm_L_slotAt : (Jvm.Cond.static ({ cls := "TwinHashTablesLaw", name := "slotAt", desc := "(LTwinHashTables;I)I" } : Jvm.MethodName)) ∈ lw_tbl := List.mem_append_right _ (List.mem_append_right _ (List.mem_append_left _ (List.mem_of_getElem? (i := 213) rfl)))
theorem cw_L_slotAt : (Jvm.Cond.codeWith ({ cls := "TwinHashTablesLaw", name := "slotAt", desc := "(LTwinHashTables;I)I" } : Jvm.MethodName) method_6_code (3 : Nat) (Option.some Jvm.ClassFile.FieldType.int) [((0 : Nat), (5 : Nat), (6 : Nat), (14 : Nat))]) ∈ lw_tbl := List.mem_append_right _ (List.mem_append_right _ (List.mem_append_left _ (List.mem_of_getElem? (i := 214) rfl)))
theorem ml_L_25 : (Jvm.Cond.methodLink "TwinHashTablesLaw" (25 : Nat) ({ cls := "TwinHashTables", name := "slotAt", desc := "(I)I" } : Jvm.MethodName)) ∈ lw_tbl := List.mem_append_right _ (List.mem_append_right _ (List.mem_append_left _ (List.mem_of_getElem? (i := 215) rfl)))
theorem im_X4_slotAt : (Jvm.Cond.instanceMethod ({ cls := "TwinHashTables", name := "slotAt", desc := "(I)I" } : Jvm.MethodName)) ∈ lw_tbl := List.mem_append_right _ (List.mem_append_right _ (List.mem_append_left _ (List.mem_of_getElem? (i := 216) rfl)))
theorem se_X4_slotAt : (Jvm.Cond.selects "TwinHashTables" ({ cls := "TwinHashTables", name := "slotAt", desc := "(I)I" } : Jvm.MethodName) ({ cls := "TwinHashTables", name := "slotAt", desc := "(I)I" } : Jvm.MethodName)) ∈ lw_tbl := List.mem_append_right _ (List.mem_append_right _ (List.mem_append_left _ (List.mem_of_getElem? (i := 217) rfl)))
theorem cd_X4_slotAt : (Jvm.Cond.code ({ cls := "TwinHashTables", name := "slotAt", desc := "(I)I" } : Jvm.MethodName) prog_1_method_24_code (2 : Nat) (Option.some Jvm.ClassFile.FieldType.int)) ∈ lw_tbl := List.mem_append_right _ (List.mem_append_right _ (List.mem_append_left _ (List.mem_of_getElem? (i := 218) rfl)))
theorem ml_L_44 : (Jvm.Cond.methodLink "TwinHashTablesLaw" (44 : Nat) ({ cls := "TwinHashTablesLaw", name := "many", desc := "(LTwinHashTables;I)I" } : Jvm.MethodName)) ∈ lw_tbl := List.mem_append_right _ (List.mem_append_right _ (List.mem_append_left _ (List.mem_of_getElem? (i := 219) rfl)))
theorem sm_L_many : (Jvm.Cond.static ({ cls := "TwinHashTablesLaw", name := "many", desc := "(LTwinHashTables;I)I" } : Jvm.MethodName)) ∈ lw_tbl := List.mem_append_right _ (List.mem_append_right _ (List.mem_append_left _ (List.mem_of_getElem? (i := 220) rfl)))
theorem cw_L_many : (Jvm.Cond.codeWith ({ cls := "TwinHashTablesLaw", name := "many", desc := "(LTwinHashTables;I)I" } : Jvm.MethodName) method_8_code (3 : Nat) (Option.some Jvm.ClassFile.FieldType.int) [((0 : Nat), (5 : Nat), (6 : Nat), (34 : Nat))]) ∈ lw_tbl := List.mem_append_right _ (List.mem_append_right _ (List.mem_append_left _ (List.mem_of_getElem? (i := 221) rfl)))
theorem clk_L_34 : (Jvm.Cond.classLink "TwinHashTablesLaw" (34 : Nat) "java/lang/IndexOutOfBoundsException") ∈ lw_tbl := List.mem_append_right _ (List.mem_append_right _ (List.mem_append_left _ (List.mem_of_getElem? (i := 222) rfl)))
theorem ml_L_31 : (Jvm.Cond.methodLink "TwinHashTablesLaw" (31 : Nat) ({ cls := "TwinHashTables", name := "bucketSize", desc := "(I)I" } : Jvm.MethodName)) ∈ lw_tbl := List.mem_append_right _ (List.mem_append_right _ (List.mem_append_left _ (List.mem_of_getElem? (i := 223) rfl)))
theorem im_X4_bucketSize : (Jvm.Cond.instanceMethod ({ cls := "TwinHashTables", name := "bucketSize", desc := "(I)I" } : Jvm.MethodName)) ∈ lw_tbl := List.mem_append_right _ (List.mem_append_right _ (List.mem_append_left _ (List.mem_of_getElem? (i := 224) rfl)))
theorem se_X4_bucketSize : (Jvm.Cond.selects "TwinHashTables" ({ cls := "TwinHashTables", name := "bucketSize", desc := "(I)I" } : Jvm.MethodName) ({ cls := "TwinHashTables", name := "bucketSize", desc := "(I)I" } : Jvm.MethodName)) ∈ lw_tbl := List.mem_append_right _ (List.mem_append_right _ (List.mem_append_left _ (List.mem_of_getElem? (i := 225) rfl)))
theorem cd_X4_bucketSize : (Jvm.Cond.code ({ cls := "TwinHashTables", name := "bucketSize", desc := "(I)I" } : Jvm.MethodName) prog_1_method_14_code (2 : Nat) (Option.some Jvm.ClassFile.FieldType.int)) ∈ lw_tbl := List.mem_append_right _ (List.mem_append_right _ (List.mem_append_left _ (List.mem_of_getElem? (i := 226) rfl)))
theorem ml_X4_110 : (Jvm.Cond.methodLink "TwinHashTables" (110 : Nat) ({ cls := "TwinHashTables", name := "checkSlot", desc := "(I)V" } : Jvm.MethodName)) ∈ lw_tbl := List.mem_append_right _ (List.mem_append_right _ (List.mem_append_left _ (List.mem_of_getElem? (i := 227) rfl)))
theorem im_X4_checkSlot : (Jvm.Cond.instanceMethod ({ cls := "TwinHashTables", name := "checkSlot", desc := "(I)V" } : Jvm.MethodName)) ∈ lw_tbl := List.mem_append_right _ (List.mem_append_right _ (List.mem_append_left _ (List.mem_of_getElem? (i := 229) rfl)))
theorem cd_X4_checkSlot : (Jvm.Cond.code ({ cls := "TwinHashTables", name := "checkSlot", desc := "(I)V" } : Jvm.MethodName) prog_1_method_40_code (2 : Nat) (Option.none : Option Jvm.ClassFile.FieldType)) ∈ lw_tbl := List.mem_append_right _ (List.mem_append_right _ (List.mem_append_left _ (List.mem_of_getElem? (i := 230) rfl)))
theorem ml_X4_138 : (Jvm.Cond.methodLink "TwinHashTables" (138 : Nat) ({ cls := "TwinHashTables$Extendible", name := "countSlots", desc := "()I" } : Jvm.MethodName)) ∈ lw_tbl := List.mem_append_right _ (List.mem_append_right _ (List.mem_append_left _ (List.mem_of_getElem? (i := 231) rfl)))
theorem ml_X4_175 : (Jvm.Cond.methodLink "TwinHashTables" (175 : Nat) ({ cls := "TwinHashTables", name := "checkIndex", desc := "(II)V" } : Jvm.MethodName)) ∈ lw_tbl := List.mem_append_right _ (List.mem_append_right _ (List.mem_append_left _ (List.mem_of_getElem? (i := 232) rfl)))
theorem sm_X4_checkIndex : (Jvm.Cond.static ({ cls := "TwinHashTables", name := "checkIndex", desc := "(II)V" } : Jvm.MethodName)) ∈ lw_tbl := List.mem_append_right _ (List.mem_append_right _ (List.mem_append_left _ (List.mem_of_getElem? (i := 233) rfl)))
theorem cd_X4_checkIndex : (Jvm.Cond.code ({ cls := "TwinHashTables", name := "checkIndex", desc := "(II)V" } : Jvm.MethodName) prog_1_method_43_code (2 : Nat) (Option.none : Option Jvm.ClassFile.FieldType)) ∈ lw_tbl := List.mem_append_right _ (List.mem_append_right _ (List.mem_append_left _ (List.mem_of_getElem? (i := 234) rfl)))
theorem clk_X4_207 : (Jvm.Cond.classLink "TwinHashTables" (207 : Nat) "java/lang/IndexOutOfBoundsException") ∈ lw_tbl := List.mem_append_right _ (List.mem_append_right _ (List.mem_append_left _ (List.mem_of_getElem? (i := 235) rfl)))
theorem inst_IndexOutOfBoundsException : (Jvm.Cond.instantiable "java/lang/IndexOutOfBoundsException" (6 : Nat)) ∈ lw_tbl := List.mem_append_right _ (List.mem_append_right _ (List.mem_append_left _ (List.mem_of_getElem? (i := 236) rfl)))
theorem cst_IndexOutOfBoundsException_IndexOutOfBoundsException : (Jvm.Cond.castable "java/lang/IndexOutOfBoundsException" "java/lang/IndexOutOfBoundsException") ∈ lw_tbl := List.mem_append_right _ (List.mem_append_right _ (List.mem_append_left _ (List.mem_of_getElem? (i := 237) rfl)))
theorem se_Throwable_fillInStackTrace_478 : (Jvm.Cond.selects "java/lang/IndexOutOfBoundsException" ({ cls := "java/lang/Throwable", name := "fillInStackTrace", desc := "(I)Ljava/lang/Throwable;" } : Jvm.MethodName) ({ cls := "java/lang/Throwable", name := "fillInStackTrace", desc := "(I)Ljava/lang/Throwable;" } : Jvm.MethodName)) ∈ lw_tbl := List.mem_append_right _ (List.mem_append_right _ (List.mem_append_left _ (List.mem_of_getElem? (i := 238) rfl)))
theorem str_X4_209 : (Jvm.Cond.stringRef "TwinHashTables" (209 : Nat) "there is none with this number") ∈ lw_tbl := List.mem_append_right _ (List.mem_append_right _ (List.mem_append_right _ (List.mem_of_getElem? (i := 4) rfl)))
theorem ml_X4_211 : (Jvm.Cond.methodLink "TwinHashTables" (211 : Nat) ({ cls := "java/lang/IndexOutOfBoundsException", name := "<init>", desc := "(Ljava/lang/String;)V" } : Jvm.MethodName)) ∈ lw_tbl := List.mem_append_right _ (List.mem_append_right _ (List.mem_append_right _ (List.mem_of_getElem? (i := 5) rfl)))
theorem im_IndexOutOfBoundsException_init : (Jvm.Cond.instanceMethod ({ cls := "java/lang/IndexOutOfBoundsException", name := "<init>", desc := "(Ljava/lang/String;)V" } : Jvm.MethodName)) ∈ lw_tbl := List.mem_append_right _ (List.mem_append_right _ (List.mem_append_right _ (List.mem_of_getElem? (i := 6) rfl)))
theorem cd_IndexOutOfBoundsException_init : (Jvm.Cond.code ({ cls := "java/lang/IndexOutOfBoundsException", name := "<init>", desc := "(Ljava/lang/String;)V" } : Jvm.MethodName) prog_11_method_2_code (2 : Nat) (Option.none : Option Jvm.ClassFile.FieldType)) ∈ lw_tbl := List.mem_append_right _ (List.mem_append_right _ (List.mem_append_right _ (List.mem_of_getElem? (i := 7) rfl)))
theorem ml_IndexOutOfBoundsException_7 : (Jvm.Cond.methodLink "java/lang/IndexOutOfBoundsException" (7 : Nat) ({ cls := "java/lang/RuntimeException", name := "<init>", desc := "(Ljava/lang/String;)V" } : Jvm.MethodName)) ∈ lw_tbl := List.mem_append_right _ (List.mem_append_right _ (List.mem_append_right _ (List.mem_of_getElem? (i := 8) rfl)))
theorem ml_X4_120 : (Jvm.Cond.methodLink "TwinHashTables" (120 : Nat) ({ cls := "TwinHashTables$Extendible", name := "rowAt", desc := "(I)I" } : Jvm.MethodName)) ∈ lw_tbl := List.mem_append_right _ (List.mem_append_right _ (List.mem_append_right _ (List.mem_of_getElem? (i := 11) rfl)))
theorem ml_X4_123 : (Jvm.Cond.methodLink "TwinHashTables" (123 : Nat) ({ cls := "TwinHashTables$Rows", name := "count", desc := "(I)I" } : Jvm.MethodName)) ∈ lw_tbl := List.mem_append_right _ (List.mem_append_right _ (List.mem_append_right _ (List.mem_of_getElem? (i := 12) rfl)))
theorem ml_L_47 : (Jvm.Cond.methodLink "TwinHashTablesLaw" (47 : Nat) ({ cls := "TwinHashTablesLaw", name := "keyAt", desc := "(LTwinHashTables;II)I" } : Jvm.MethodName)) ∈ lw_tbl := List.mem_append_right _ (List.mem_append_right _ (List.mem_append_right _ (List.mem_of_getElem? (i := 13) rfl)))
theorem sm_L_keyAt : (Jvm.Cond.static ({ cls := "TwinHashTablesLaw", name := "keyAt", desc := "(LTwinHashTables;II)I" } : Jvm.MethodName)) ∈ lw_tbl := List.mem_append_right _ (List.mem_append_right _ (List.mem_append_right _ (List.mem_of_getElem? (i := 14) rfl)))
theorem cw_L_keyAt : (Jvm.Cond.codeWith ({ cls := "TwinHashTablesLaw", name := "keyAt", desc := "(LTwinHashTables;II)I" } : Jvm.MethodName) method_9_code (4 : Nat) (Option.some Jvm.ClassFile.FieldType.int) [((0 : Nat), (6 : Nat), (7 : Nat), (34 : Nat))]) ∈ lw_tbl := List.mem_append_right _ (List.mem_append_right _ (List.mem_append_right _ (List.mem_of_getElem? (i := 15) rfl)))
theorem ml_L_36 : (Jvm.Cond.methodLink "TwinHashTablesLaw" (36 : Nat) ({ cls := "TwinHashTables", name := "keyAt", desc := "(II)I" } : Jvm.MethodName)) ∈ lw_tbl := List.mem_append_right _ (List.mem_append_right _ (List.mem_append_right _ (List.mem_of_getElem? (i := 16) rfl)))
theorem im_X4_keyAt : (Jvm.Cond.instanceMethod ({ cls := "TwinHashTables", name := "keyAt", desc := "(II)I" } : Jvm.MethodName)) ∈ lw_tbl := List.mem_append_right _ (List.mem_append_right _ (List.mem_append_right _ (List.mem_of_getElem? (i := 17) rfl)))
theorem se_X4_keyAt : (Jvm.Cond.selects "TwinHashTables" ({ cls := "TwinHashTables", name := "keyAt", desc := "(II)I" } : Jvm.MethodName) ({ cls := "TwinHashTables", name := "keyAt", desc := "(II)I" } : Jvm.MethodName)) ∈ lw_tbl := List.mem_append_right _ (List.mem_append_right _ (List.mem_append_right _ (List.mem_of_getElem? (i := 18) rfl)))
theorem cd_X4_keyAt : (Jvm.Cond.code ({ cls := "TwinHashTables", name := "keyAt", desc := "(II)I" } : Jvm.MethodName) prog_1_method_15_code (3 : Nat) (Option.some Jvm.ClassFile.FieldType.int)) ∈ lw_tbl := List.mem_append_right _ (List.mem_append_right _ (List.mem_append_right _ (List.mem_of_getElem? (i := 19) rfl)))
theorem ml_X4_128 : (Jvm.Cond.methodLink "TwinHashTables" (128 : Nat) ({ cls := "TwinHashTables", name := "keyOfRow", desc := "(LTwinHashTables$Rows;II)I" } : Jvm.MethodName)) ∈ lw_tbl := List.mem_append_right _ (List.mem_append_right _ (List.mem_append_right _ (List.mem_of_getElem? (i := 20) rfl)))
theorem im_X4_keyOfRow : (Jvm.Cond.instanceMethod ({ cls := "TwinHashTables", name := "keyOfRow", desc := "(LTwinHashTables$Rows;II)I" } : Jvm.MethodName)) ∈ lw_tbl := List.mem_append_right _ (List.mem_append_right _ (List.mem_append_right _ (List.mem_of_getElem? (i := 22) rfl)))
theorem cd_X4_keyOfRow : (Jvm.Cond.code ({ cls := "TwinHashTables", name := "keyOfRow", desc := "(LTwinHashTables$Rows;II)I" } : Jvm.MethodName) prog_1_method_39_code (4 : Nat) (Option.some Jvm.ClassFile.FieldType.int)) ∈ lw_tbl := List.mem_append_right _ (List.mem_append_right _ (List.mem_append_right _ (List.mem_of_getElem? (i := 23) rfl)))
theorem ml_X4_195 : (Jvm.Cond.methodLink "TwinHashTables" (195 : Nat) ({ cls := "TwinHashTables$Rows", name := "entryAt", desc := "(II)I" } : Jvm.MethodName)) ∈ lw_tbl := List.mem_append_right _ (List.mem_append_right _ (List.mem_append_right _ (List.mem_of_getElem? (i := 24) rfl)))
theorem ml_X4_198 : (Jvm.Cond.methodLink "TwinHashTables" (198 : Nat) ({ cls := "TwinHashTables$Store", name := "keyOf", desc := "(I)I" } : Jvm.MethodName)) ∈ lw_tbl := List.mem_append_right _ (List.mem_append_right _ (List.mem_append_right _ (List.mem_of_getElem? (i := 25) rfl)))
theorem ml_L_50 : (Jvm.Cond.methodLink "TwinHashTablesLaw" (50 : Nat) ({ cls := "TwinHashTablesLaw", name := "seen", desc := "([I[II)V" } : Jvm.MethodName)) ∈ lw_tbl := List.mem_append_right _ (List.mem_append_right _ (List.mem_append_right _ (List.mem_of_getElem? (i := 26) rfl)))
theorem sm_L_seen : (Jvm.Cond.static ({ cls := "TwinHashTablesLaw", name := "seen", desc := "([I[II)V" } : Jvm.MethodName)) ∈ lw_tbl := List.mem_append_right _ (List.mem_append_right _ (List.mem_append_right _ (List.mem_of_getElem? (i := 27) rfl)))
theorem cd_L_seen : (Jvm.Cond.code ({ cls := "TwinHashTablesLaw", name := "seen", desc := "([I[II)V" } : Jvm.MethodName) method_10_code (4 : Nat) (Option.none : Option Jvm.ClassFile.FieldType)) ∈ lw_tbl := List.mem_append_right _ (List.mem_append_right _ (List.mem_append_right _ (List.mem_of_getElem? (i := 28) rfl)))
theorem ml_L_74 : (Jvm.Cond.methodLink "TwinHashTablesLaw" (74 : Nat) ({ cls := "TwinHashTablesLaw", name := "changes", desc := "(LTwinHashTables;[I[II)Z" } : Jvm.MethodName)) ∈ lw_tbl := List.mem_append_right _ (List.mem_append_right _ (List.mem_append_right _ (List.mem_of_getElem? (i := 29) rfl)))
theorem sm_L_changes : (Jvm.Cond.static ({ cls := "TwinHashTablesLaw", name := "changes", desc := "(LTwinHashTables;[I[II)Z" } : Jvm.MethodName)) ∈ lw_tbl := List.mem_append_right _ (List.mem_append_right _ (List.mem_append_right _ (List.mem_of_getElem? (i := 30) rfl)))
theorem cd_L_changes : (Jvm.Cond.code ({ cls := "TwinHashTablesLaw", name := "changes", desc := "(LTwinHashTables;[I[II)Z" } : Jvm.MethodName) method_12_code (6 : Nat) (Option.some Jvm.ClassFile.FieldType.boolean)) ∈ lw_tbl := List.mem_append_right _ (List.mem_append_right _ (List.mem_append_right _ (List.mem_of_getElem? (i := 31) rfl)))
theorem ml_L_56 : (Jvm.Cond.methodLink "TwinHashTablesLaw" (56 : Nat) ({ cls := "TwinHashTablesLaw", name := "removed", desc := "(LTwinHashTables;I)I" } : Jvm.MethodName)) ∈ lw_tbl := List.mem_append_right _ (List.mem_append_right _ (List.mem_append_right _ (List.mem_of_getElem? (i := 32) rfl)))
theorem sm_L_removed : (Jvm.Cond.static ({ cls := "TwinHashTablesLaw", name := "removed", desc := "(LTwinHashTables;I)I" } : Jvm.MethodName)) ∈ lw_tbl := List.mem_append_right _ (List.mem_append_right _ (List.mem_append_right _ (List.mem_of_getElem? (i := 33) rfl)))
theorem cw_L_removed : (Jvm.Cond.codeWith ({ cls := "TwinHashTablesLaw", name := "removed", desc := "(LTwinHashTables;I)I" } : Jvm.MethodName) method_4_code (3 : Nat) (Option.some Jvm.ClassFile.FieldType.int) [((0 : Nat), (5 : Nat), (6 : Nat), (14 : Nat))]) ∈ lw_tbl := List.mem_append_right _ (List.mem_append_right _ (List.mem_append_right _ (List.mem_of_getElem? (i := 34) rfl)))
theorem ml_L_18 : (Jvm.Cond.methodLink "TwinHashTablesLaw" (18 : Nat) ({ cls := "TwinHashTables", name := "remove", desc := "(I)I" } : Jvm.MethodName)) ∈ lw_tbl := List.mem_append_right _ (List.mem_append_right _ (List.mem_append_right _ (List.mem_of_getElem? (i := 35) rfl)))
theorem im_X4_remove : (Jvm.Cond.instanceMethod ({ cls := "TwinHashTables", name := "remove", desc := "(I)I" } : Jvm.MethodName)) ∈ lw_tbl := List.mem_append_right _ (List.mem_append_right _ (List.mem_append_right _ (List.mem_of_getElem? (i := 36) rfl)))
theorem se_X4_remove : (Jvm.Cond.selects "TwinHashTables" ({ cls := "TwinHashTables", name := "remove", desc := "(I)I" } : Jvm.MethodName) ({ cls := "TwinHashTables", name := "remove", desc := "(I)I" } : Jvm.MethodName)) ∈ lw_tbl := List.mem_append_right _ (List.mem_append_right _ (List.mem_append_right _ (List.mem_of_getElem? (i := 37) rfl)))
theorem cd_X4_remove : (Jvm.Cond.code ({ cls := "TwinHashTables", name := "remove", desc := "(I)I" } : Jvm.MethodName) prog_1_method_3_code (3 : Nat) (Option.some Jvm.ClassFile.FieldType.int)) ∈ lw_tbl := List.mem_append_right _ (List.mem_append_right _ (List.mem_append_right _ (List.mem_of_getElem? (i := 38) rfl)))
theorem ml_X4_66 : (Jvm.Cond.methodLink "TwinHashTables" (66 : Nat) ({ cls := "TwinHashTables$Store", name := "release", desc := "(I)V" } : Jvm.MethodName)) ∈ lw_tbl := List.mem_append_right _ (List.mem_append_right _ (List.mem_append_right _ (List.mem_of_getElem? (i := 39) rfl)))
theorem im_X3_release : (Jvm.Cond.instanceMethod ({ cls := "TwinHashTables$Store", name := "release", desc := "(I)V" } : Jvm.MethodName)) ∈ lw_tbl := List.mem_append_right _ (List.mem_append_right _ (List.mem_append_right _ (List.mem_of_getElem? (i := 40) rfl)))
theorem se_X3_release : (Jvm.Cond.selects "TwinHashTables$Store" ({ cls := "TwinHashTables$Store", name := "release", desc := "(I)V" } : Jvm.MethodName) ({ cls := "TwinHashTables$Store", name := "release", desc := "(I)V" } : Jvm.MethodName)) ∈ lw_tbl := List.mem_append_right _ (List.mem_append_right _ (List.mem_append_right _ (List.mem_of_getElem? (i := 41) rfl)))
theorem cd_X3_release : (Jvm.Cond.code ({ cls := "TwinHashTables$Store", name := "release", desc := "(I)V" } : Jvm.MethodName) prog_5_method_7_code (4 : Nat) (Option.none : Option Jvm.ClassFile.FieldType)) ∈ lw_tbl := List.mem_append_right _ (List.mem_append_right _ (List.mem_append_right _ (List.mem_of_getElem? (i := 42) rfl)))
theorem ml_X4_69 : (Jvm.Cond.methodLink "TwinHashTables" (69 : Nat) ({ cls := "TwinHashTables$Extendible", name := "delete", desc := "(I)V" } : Jvm.MethodName)) ∈ lw_tbl := List.mem_append_right _ (List.mem_append_right _ (List.mem_append_right _ (List.mem_of_getElem? (i := 43) rfl)))
theorem im_X0_delete : (Jvm.Cond.instanceMethod ({ cls := "TwinHashTables$Extendible", name := "delete", desc := "(I)V" } : Jvm.MethodName)) ∈ lw_tbl := List.mem_append_right _ (List.mem_append_right _ (List.mem_append_right _ (List.mem_of_getElem? (i := 44) rfl)))
theorem se_X0_delete : (Jvm.Cond.selects "TwinHashTables$Extendible" ({ cls := "TwinHashTables$Extendible", name := "delete", desc := "(I)V" } : Jvm.MethodName) ({ cls := "TwinHashTables$Extendible", name := "delete", desc := "(I)V" } : Jvm.MethodName)) ∈ lw_tbl := List.mem_append_right _ (List.mem_append_right _ (List.mem_append_right _ (List.mem_of_getElem? (i := 45) rfl)))
theorem cd_X0_delete : (Jvm.Cond.code ({ cls := "TwinHashTables$Extendible", name := "delete", desc := "(I)V" } : Jvm.MethodName) prog_2_method_11_code (4 : Nat) (Option.none : Option Jvm.ClassFile.FieldType)) ∈ lw_tbl := List.mem_append_right _ (List.mem_append_right _ (List.mem_append_right _ (List.mem_of_getElem? (i := 46) rfl)))
theorem ml_X0_93 : (Jvm.Cond.methodLink "TwinHashTables$Extendible" (93 : Nat) ({ cls := "TwinHashTables$Rows", name := "unlink", desc := "(II)V" } : Jvm.MethodName)) ∈ lw_tbl := List.mem_append_right _ (List.mem_append_right _ (List.mem_append_right _ (List.mem_of_getElem? (i := 47) rfl)))
theorem im_X2_unlink : (Jvm.Cond.instanceMethod ({ cls := "TwinHashTables$Rows", name := "unlink", desc := "(II)V" } : Jvm.MethodName)) ∈ lw_tbl := List.mem_append_right _ (List.mem_append_right _ (List.mem_append_right _ (List.mem_of_getElem? (i := 48) rfl)))
theorem se_X2_unlink : (Jvm.Cond.selects "TwinHashTables$Rows" ({ cls := "TwinHashTables$Rows", name := "unlink", desc := "(II)V" } : Jvm.MethodName) ({ cls := "TwinHashTables$Rows", name := "unlink", desc := "(II)V" } : Jvm.MethodName)) ∈ lw_tbl := List.mem_append_right _ (List.mem_append_right _ (List.mem_append_right _ (List.mem_of_getElem? (i := 49) rfl)))
theorem cd_X2_unlink : (Jvm.Cond.code ({ cls := "TwinHashTables$Rows", name := "unlink", desc := "(II)V" } : Jvm.MethodName) prog_4_method_6_code (4 : Nat) (Option.none : Option Jvm.ClassFile.FieldType)) ∈ lw_tbl := List.mem_append_right _ (List.mem_append_right _ (List.mem_append_right _ (List.mem_of_getElem? (i := 50) rfl)))
theorem ml_X2_49 : (Jvm.Cond.methodLink "TwinHashTables$Rows" (49 : Nat) ({ cls := "TwinHashTables$Rows", name := "entryBefore", desc := "(II)I" } : Jvm.MethodName)) ∈ lw_tbl := List.mem_append_right _ (List.mem_append_right _ (List.mem_append_right _ (List.mem_of_getElem? (i := 51) rfl)))
theorem im_X2_entryBefore : (Jvm.Cond.instanceMethod ({ cls := "TwinHashTables$Rows", name := "entryBefore", desc := "(II)I" } : Jvm.MethodName)) ∈ lw_tbl := List.mem_append_right _ (List.mem_append_right _ (List.mem_append_right _ (List.mem_of_getElem? (i := 53) rfl)))
theorem cd_X2_entryBefore : (Jvm.Cond.code ({ cls := "TwinHashTables$Rows", name := "entryBefore", desc := "(II)I" } : Jvm.MethodName) prog_4_method_14_code (7 : Nat) (Option.some Jvm.ClassFile.FieldType.int)) ∈ lw_tbl := List.mem_append_right _ (List.mem_append_right _ (List.mem_append_right _ (List.mem_of_getElem? (i := 54) rfl)))
theorem ml_X0_96 : (Jvm.Cond.methodLink "TwinHashTables$Extendible" (96 : Nat) ({ cls := "TwinHashTables$Extendible", name := "canMerge", desc := "(I)Z" } : Jvm.MethodName)) ∈ lw_tbl := List.mem_append_right _ (List.mem_append_right _ (List.mem_append_right _ (List.mem_of_getElem? (i := 55) rfl)))
theorem im_X0_canMerge : (Jvm.Cond.instanceMethod ({ cls := "TwinHashTables$Extendible", name := "canMerge", desc := "(I)Z" } : Jvm.MethodName)) ∈ lw_tbl := List.mem_append_right _ (List.mem_append_right _ (List.mem_append_right _ (List.mem_of_getElem? (i := 57) rfl)))
theorem cd_X0_canMerge : (Jvm.Cond.code ({ cls := "TwinHashTables$Extendible", name := "canMerge", desc := "(I)Z" } : Jvm.MethodName) prog_2_method_14_code (3 : Nat) (Option.some Jvm.ClassFile.FieldType.boolean)) ∈ lw_tbl := List.mem_append_right _ (List.mem_append_right _ (List.mem_append_right _ (List.mem_of_getElem? (i := 58) rfl)))
theorem ml_X0_122 : (Jvm.Cond.methodLink "TwinHashTables$Extendible" (122 : Nat) ({ cls := "TwinHashTables$Extendible", name := "buddyAt", desc := "(I)I" } : Jvm.MethodName)) ∈ lw_tbl := List.mem_append_right _ (List.mem_append_right _ (List.mem_append_right _ (List.mem_of_getElem? (i := 59) rfl)))
theorem im_X0_buddyAt : (Jvm.Cond.instanceMethod ({ cls := "TwinHashTables$Extendible", name := "buddyAt", desc := "(I)I" } : Jvm.MethodName)) ∈ lw_tbl := List.mem_append_right _ (List.mem_append_right _ (List.mem_append_right _ (List.mem_of_getElem? (i := 60) rfl)))
theorem se_X0_buddyAt : (Jvm.Cond.selects "TwinHashTables$Extendible" ({ cls := "TwinHashTables$Extendible", name := "buddyAt", desc := "(I)I" } : Jvm.MethodName) ({ cls := "TwinHashTables$Extendible", name := "buddyAt", desc := "(I)I" } : Jvm.MethodName)) ∈ lw_tbl := List.mem_append_right _ (List.mem_append_right _ (List.mem_append_right _ (List.mem_of_getElem? (i := 61) rfl)))
theorem cd_X0_buddyAt : (Jvm.Cond.code ({ cls := "TwinHashTables$Extendible", name := "buddyAt", desc := "(I)I" } : Jvm.MethodName) prog_2_method_9_code (4 : Nat) (Option.some Jvm.ClassFile.FieldType.int)) ∈ lw_tbl := List.mem_append_right _ (List.mem_append_right _ (List.mem_append_right _ (List.mem_of_getElem? (i := 62) rfl)))
theorem ml_X0_99 : (Jvm.Cond.methodLink "TwinHashTables$Extendible" (99 : Nat) ({ cls := "TwinHashTables$Extendible", name := "mergeBuckets", desc := "(II)V" } : Jvm.MethodName)) ∈ lw_tbl := List.mem_append_right _ (List.mem_append_right _ (List.mem_append_right _ (List.mem_of_getElem? (i := 63) rfl)))
theorem im_X0_mergeBuckets : (Jvm.Cond.instanceMethod ({ cls := "TwinHashTables$Extendible", name := "mergeBuckets", desc := "(II)V" } : Jvm.MethodName)) ∈ lw_tbl := List.mem_append_right _ (List.mem_append_right _ (List.mem_append_right _ (List.mem_of_getElem? (i := 65) rfl)))
theorem cd_X0_mergeBuckets : (Jvm.Cond.code ({ cls := "TwinHashTables$Extendible", name := "mergeBuckets", desc := "(II)V" } : Jvm.MethodName) prog_2_method_15_code (3 : Nat) (Option.none : Option Jvm.ClassFile.FieldType)) ∈ lw_tbl := List.mem_append_right _ (List.mem_append_right _ (List.mem_append_right _ (List.mem_of_getElem? (i := 66) rfl)))
theorem ml_X0_125 : (Jvm.Cond.methodLink "TwinHashTables$Extendible" (125 : Nat) ({ cls := "TwinHashTables$Rows", name := "pour", desc := "(II)V" } : Jvm.MethodName)) ∈ lw_tbl := List.mem_append_right _ (List.mem_append_right _ (List.mem_append_right _ (List.mem_of_getElem? (i := 67) rfl)))
theorem im_X2_pour : (Jvm.Cond.instanceMethod ({ cls := "TwinHashTables$Rows", name := "pour", desc := "(II)V" } : Jvm.MethodName)) ∈ lw_tbl := List.mem_append_right _ (List.mem_append_right _ (List.mem_append_right _ (List.mem_of_getElem? (i := 68) rfl)))
theorem se_X2_pour : (Jvm.Cond.selects "TwinHashTables$Rows" ({ cls := "TwinHashTables$Rows", name := "pour", desc := "(II)V" } : Jvm.MethodName) ({ cls := "TwinHashTables$Rows", name := "pour", desc := "(II)V" } : Jvm.MethodName)) ∈ lw_tbl := List.mem_append_right _ (List.mem_append_right _ (List.mem_append_right _ (List.mem_of_getElem? (i := 69) rfl)))
theorem cd_X2_pour : (Jvm.Cond.code ({ cls := "TwinHashTables$Rows", name := "pour", desc := "(II)V" } : Jvm.MethodName) prog_4_method_7_code (3 : Nat) (Option.none : Option Jvm.ClassFile.FieldType)) ∈ lw_tbl := List.mem_append_right _ (List.mem_append_right _ (List.mem_append_right _ (List.mem_of_getElem? (i := 70) rfl)))
theorem ml_X2_52 : (Jvm.Cond.methodLink "TwinHashTables$Rows" (52 : Nat) ({ cls := "TwinHashTables$Rows", name := "deal", desc := "(IIII)V" } : Jvm.MethodName)) ∈ lw_tbl := List.mem_append_right _ (List.mem_append_right _ (List.mem_append_right _ (List.mem_of_getElem? (i := 71) rfl)))
theorem ml_X0_102 : (Jvm.Cond.methodLink "TwinHashTables$Extendible" (102 : Nat) ({ cls := "TwinHashTables$Extendible", name := "halveWhilePossible", desc := "()V" } : Jvm.MethodName)) ∈ lw_tbl := List.mem_append_right _ (List.mem_append_right _ (List.mem_append_right _ (List.mem_of_getElem? (i := 72) rfl)))
theorem im_X0_halveWhilePossible : (Jvm.Cond.instanceMethod ({ cls := "TwinHashTables$Extendible", name := "halveWhilePossible", desc := "()V" } : Jvm.MethodName)) ∈ lw_tbl := List.mem_append_right _ (List.mem_append_right _ (List.mem_append_right _ (List.mem_of_getElem? (i := 74) rfl)))
theorem cd_X0_halveWhilePossible : (Jvm.Cond.code ({ cls := "TwinHashTables$Extendible", name := "halveWhilePossible", desc := "()V" } : Jvm.MethodName) prog_2_method_17_code (2 : Nat) (Option.none : Option Jvm.ClassFile.FieldType)) ∈ lw_tbl := List.mem_append_right _ (List.mem_append_right _ (List.mem_append_right _ (List.mem_of_getElem? (i := 75) rfl)))
theorem ml_X0_128 : (Jvm.Cond.methodLink "TwinHashTables$Extendible" (128 : Nat) ({ cls := "TwinHashTables$Extendible", name := "hasDepth", desc := "(I)Z" } : Jvm.MethodName)) ∈ lw_tbl := List.mem_append_right _ (List.mem_append_right _ (List.mem_append_right _ (List.mem_of_getElem? (i := 76) rfl)))
theorem im_X0_hasDepth : (Jvm.Cond.instanceMethod ({ cls := "TwinHashTables$Extendible", name := "hasDepth", desc := "(I)Z" } : Jvm.MethodName)) ∈ lw_tbl := List.mem_append_right _ (List.mem_append_right _ (List.mem_append_right _ (List.mem_of_getElem? (i := 78) rfl)))
theorem cd_X0_hasDepth : (Jvm.Cond.code ({ cls := "TwinHashTables$Extendible", name := "hasDepth", desc := "(I)Z" } : Jvm.MethodName) prog_2_method_18_code (4 : Nat) (Option.some Jvm.ClassFile.FieldType.boolean)) ∈ lw_tbl := List.mem_append_right _ (List.mem_append_right _ (List.mem_append_right _ (List.mem_of_getElem? (i := 79) rfl)))
theorem ml_X4_72 : (Jvm.Cond.methodLink "TwinHashTables" (72 : Nat) ({ cls := "TwinHashTables$Linear", name := "delete", desc := "(I)V" } : Jvm.MethodName)) ∈ lw_tbl := List.mem_append_right _ (List.mem_append_right _ (List.mem_append_right _ (List.mem_of_getElem? (i := 80) rfl)))
theorem im_X1_delete : (Jvm.Cond.instanceMethod ({ cls := "TwinHashTables$Linear", name := "delete", desc := "(I)V" } : Jvm.MethodName)) ∈ lw_tbl := List.mem_append_right _ (List.mem_append_right _ (List.mem_append_right _ (List.mem_of_getElem? (i := 81) rfl)))
theorem se_X1_delete : (Jvm.Cond.selects "TwinHashTables$Linear" ({ cls := "TwinHashTables$Linear", name := "delete", desc := "(I)V" } : Jvm.MethodName) ({ cls := "TwinHashTables$Linear", name := "delete", desc := "(I)V" } : Jvm.MethodName)) ∈ lw_tbl := List.mem_append_right _ (List.mem_append_right _ (List.mem_append_right _ (List.mem_of_getElem? (i := 82) rfl)))
theorem cd_X1_delete : (Jvm.Cond.code ({ cls := "TwinHashTables$Linear", name := "delete", desc := "(I)V" } : Jvm.MethodName) prog_3_method_6_code (3 : Nat) (Option.none : Option Jvm.ClassFile.FieldType)) ∈ lw_tbl := List.mem_append_right _ (List.mem_append_right _ (List.mem_append_right _ (List.mem_of_getElem? (i := 83) rfl)))
theorem ml_X1_76 : (Jvm.Cond.methodLink "TwinHashTables$Linear" (76 : Nat) ({ cls := "TwinHashTables$Rows", name := "unlink", desc := "(II)V" } : Jvm.MethodName)) ∈ lw_tbl := List.mem_append_right _ (List.mem_append_right _ (List.mem_append_right _ (List.mem_of_getElem? (i := 84) rfl)))
theorem ml_X1_79 : (Jvm.Cond.methodLink "TwinHashTables$Linear" (79 : Nat) ({ cls := "TwinHashTables$Linear", name := "takeBackSplit", desc := "()V" } : Jvm.MethodName)) ∈ lw_tbl := List.mem_append_right _ (List.mem_append_right _ (List.mem_append_right _ (List.mem_of_getElem? (i := 85) rfl)))
theorem im_X1_takeBackSplit : (Jvm.Cond.instanceMethod ({ cls := "TwinHashTables$Linear", name := "takeBackSplit", desc := "()V" } : Jvm.MethodName)) ∈ lw_tbl := List.mem_append_right _ (List.mem_append_right _ (List.mem_append_right _ (List.mem_of_getElem? (i := 87) rfl)))
theorem cd_X1_takeBackSplit : (Jvm.Cond.code ({ cls := "TwinHashTables$Linear", name := "takeBackSplit", desc := "()V" } : Jvm.MethodName) prog_3_method_10_code (1 : Nat) (Option.none : Option Jvm.ClassFile.FieldType)) ∈ lw_tbl := List.mem_append_right _ (List.mem_append_right _ (List.mem_append_right _ (List.mem_of_getElem? (i := 88) rfl)))
theorem ml_X1_92 : (Jvm.Cond.methodLink "TwinHashTables$Linear" (92 : Nat) ({ cls := "TwinHashTables$Rows", name := "pour", desc := "(II)V" } : Jvm.MethodName)) ∈ lw_tbl := List.mem_append_right _ (List.mem_append_right _ (List.mem_append_right _ (List.mem_of_getElem? (i := 89) rfl)))
theorem ml_X4_73 : (Jvm.Cond.methodLink "TwinHashTables" (73 : Nat) ({ cls := "TwinHashTables$Store", name := "valueOf", desc := "(I)I" } : Jvm.MethodName)) ∈ lw_tbl := List.mem_append_right _ (List.mem_append_right _ (List.mem_append_right _ (List.mem_of_getElem? (i := 90) rfl)))
theorem se_Throwable_fillInStackTrace_p : Cond.selects "java/lang/Throwable" ⟨"java/lang/Throwable", "fillInStackTrace", "(I)Ljava/lang/Throwable;"⟩ ⟨"java/lang/Throwable", "fillInStackTrace", "(I)Ljava/lang/Throwable;"⟩ ∈ lw_tbl := List.mem_append_left _ (List.mem_of_getElem? (i := 0) rfl)
theorem se_X2_placeOf : Cond.selects "TwinHashTables$Rows" ⟨"TwinHashTables$Rows", "placeOf", "(II)I"⟩ ⟨"TwinHashTables$Rows", "placeOf", "(II)I"⟩ ∈ lw_tbl := List.mem_append_left _ (List.mem_of_getElem? (i := 1) rfl)
theorem se_X2_firstOf : Cond.selects "TwinHashTables$Rows" ⟨"TwinHashTables$Rows", "firstOf", "(I)I"⟩ ⟨"TwinHashTables$Rows", "firstOf", "(I)I"⟩ ∈ lw_tbl := List.mem_append_left _ (List.mem_of_getElem? (i := 2) rfl)
theorem se_X2_after : Cond.selects "TwinHashTables$Rows" ⟨"TwinHashTables$Rows", "after", "(I)I"⟩ ⟨"TwinHashTables$Rows", "after", "(I)I"⟩ ∈ lw_tbl := List.mem_append_left _ (List.mem_of_getElem? (i := 3) rfl)
theorem se_X4_insertIntoBoth : Cond.selects "TwinHashTables" ⟨"TwinHashTables", "insertIntoBoth", "(I)V"⟩ ⟨"TwinHashTables", "insertIntoBoth", "(I)V"⟩ ∈ lw_tbl := List.mem_append_left _ (List.mem_of_getElem? (i := 4) rfl)
theorem se_X0_splitBucket : Cond.selects "TwinHashTables$Extendible" ⟨"TwinHashTables$Extendible", "splitBucket", "(II)V"⟩ ⟨"TwinHashTables$Extendible", "splitBucket", "(II)V"⟩ ∈ lw_tbl := List.mem_append_left _ (List.mem_of_getElem? (i := 5) rfl)
theorem se_X0_doubleDirectory : Cond.selects "TwinHashTables$Extendible" ⟨"TwinHashTables$Extendible", "doubleDirectory", "()V"⟩ ⟨"TwinHashTables$Extendible", "doubleDirectory", "()V"⟩ ∈ lw_tbl := List.mem_append_left _ (List.mem_of_getElem? (i := 6) rfl)
theorem se_X0_setDepth : Cond.selects "TwinHashTables$Extendible" ⟨"TwinHashTables$Extendible", "setDepth", "(II)V"⟩ ⟨"TwinHashTables$Extendible", "setDepth", "(II)V"⟩ ∈ lw_tbl := List.mem_append_left _ (List.mem_of_getElem? (i := 7) rfl)
theorem se_X0_setDepths : Cond.selects "TwinHashTables$Extendible" ⟨"TwinHashTables$Extendible", "setDepths", "(III)V"⟩ ⟨"TwinHashTables$Extendible", "setDepths", "(III)V"⟩ ∈ lw_tbl := List.mem_append_left _ (List.mem_of_getElem? (i := 8) rfl)
theorem se_X2_empty : Cond.selects "TwinHashTables$Rows" ⟨"TwinHashTables$Rows", "empty", "(I)V"⟩ ⟨"TwinHashTables$Rows", "empty", "(I)V"⟩ ∈ lw_tbl := List.mem_append_left _ (List.mem_of_getElem? (i := 9) rfl)
theorem se_X1_fullAt : Cond.selects "TwinHashTables$Linear" ⟨"TwinHashTables$Linear", "fullAt", "(II)I"⟩ ⟨"TwinHashTables$Linear", "fullAt", "(II)I"⟩ ∈ lw_tbl := List.mem_append_left _ (List.mem_of_getElem? (i := 10) rfl)
theorem se_X1_splitNext : Cond.selects "TwinHashTables$Linear" ⟨"TwinHashTables$Linear", "splitNext", "()V"⟩ ⟨"TwinHashTables$Linear", "splitNext", "()V"⟩ ∈ lw_tbl := List.mem_append_left _ (List.mem_of_getElem? (i := 11) rfl)
theorem se_X4_emptyAll : Cond.selects "TwinHashTables" ⟨"TwinHashTables", "emptyAll", "()V"⟩ ⟨"TwinHashTables", "emptyAll", "()V"⟩ ∈ lw_tbl := List.mem_append_left _ (List.mem_of_getElem? (i := 12) rfl)
theorem se_X4_checkSlot : Cond.selects "TwinHashTables" ⟨"TwinHashTables", "checkSlot", "(I)V"⟩ ⟨"TwinHashTables", "checkSlot", "(I)V"⟩ ∈ lw_tbl := List.mem_append_left _ (List.mem_of_getElem? (i := 13) rfl)
theorem se_X4_keyOfRow : Cond.selects "TwinHashTables" ⟨"TwinHashTables", "keyOfRow", "(LTwinHashTables$Rows;II)I"⟩ ⟨"TwinHashTables", "keyOfRow", "(LTwinHashTables$Rows;II)I"⟩ ∈ lw_tbl := List.mem_append_left _ (List.mem_of_getElem? (i := 14) rfl)
theorem se_X2_entryBefore : Cond.selects "TwinHashTables$Rows" ⟨"TwinHashTables$Rows", "entryBefore", "(II)I"⟩ ⟨"TwinHashTables$Rows", "entryBefore", "(II)I"⟩ ∈ lw_tbl := List.mem_append_left _ (List.mem_of_getElem? (i := 15) rfl)
theorem se_X0_canMerge : Cond.selects "TwinHashTables$Extendible" ⟨"TwinHashTables$Extendible", "canMerge", "(I)Z"⟩ ⟨"TwinHashTables$Extendible", "canMerge", "(I)Z"⟩ ∈ lw_tbl := List.mem_append_left _ (List.mem_of_getElem? (i := 16) rfl)
theorem se_X0_mergeBuckets : Cond.selects "TwinHashTables$Extendible" ⟨"TwinHashTables$Extendible", "mergeBuckets", "(II)V"⟩ ⟨"TwinHashTables$Extendible", "mergeBuckets", "(II)V"⟩ ∈ lw_tbl := List.mem_append_left _ (List.mem_of_getElem? (i := 17) rfl)
theorem se_X0_halveWhilePossible : Cond.selects "TwinHashTables$Extendible" ⟨"TwinHashTables$Extendible", "halveWhilePossible", "()V"⟩ ⟨"TwinHashTables$Extendible", "halveWhilePossible", "()V"⟩ ∈ lw_tbl := List.mem_append_left _ (List.mem_of_getElem? (i := 18) rfl)
theorem se_X0_hasDepth : Cond.selects "TwinHashTables$Extendible" ⟨"TwinHashTables$Extendible", "hasDepth", "(I)Z"⟩ ⟨"TwinHashTables$Extendible", "hasDepth", "(I)Z"⟩ ∈ lw_tbl := List.mem_append_left _ (List.mem_of_getElem? (i := 19) rfl)
theorem se_X1_takeBackSplit : Cond.selects "TwinHashTables$Linear" ⟨"TwinHashTables$Linear", "takeBackSplit", "()V"⟩ ⟨"TwinHashTables$Linear", "takeBackSplit", "()V"⟩ ∈ lw_tbl := List.mem_append_left _ (List.mem_of_getElem? (i := 20) rfl)
theorem inJ0 : ∀ w ∈ u_ws RJ0 TJ0 0, w ∈ lw_tbl := fun w h => List.mem_append_right _ (by
  have h2 : u_ws RJ0 TJ0 0 = ([] : List Nat).filterMap (fun i => tables_1[i]?) := by decide +kernel
  rw [h2] at h; obtain ⟨i, -, hi⟩ := List.mem_filterMap.mp h; exact List.mem_of_getElem? hi)
theorem inX0 : ∀ w ∈ u_ws RX0 TX0 8, w ∈ lw_tbl := fun w h => List.mem_append_right _ (by
  have h2 : u_ws RX0 TX0 8 = ([86, 88, 90, 92, 94, 96, 98, 100] : List Nat).filterMap (fun i => tables_1[i]?) := by decide +kernel
  rw [h2] at h; obtain ⟨i, -, hi⟩ := List.mem_filterMap.mp h; exact List.mem_of_getElem? hi)
theorem inX1 : ∀ w ∈ u_ws RX1 TX1 7, w ∈ lw_tbl := fun w h => List.mem_append_right _ (by
  have h2 : u_ws RX1 TX1 7 = ([118, 120, 122, 124, 126, 128, 130] : List Nat).filterMap (fun i => tables_1[i]?) := by decide +kernel
  rw [h2] at h; obtain ⟨i, -, hi⟩ := List.mem_filterMap.mp h; exact List.mem_of_getElem? hi)
theorem inX2 : ∀ w ∈ u_ws RX2 TX2 5, w ∈ lw_tbl := fun w h => List.mem_append_right _ (by
  have h2 : u_ws RX2 TX2 5 = ([65, 67, 69, 71, 73] : List Nat).filterMap (fun i => tables_1[i]?) := by decide +kernel
  rw [h2] at h; obtain ⟨i, -, hi⟩ := List.mem_filterMap.mp h; exact List.mem_of_getElem? hi)
theorem inX3 : ∀ w ∈ u_ws RX3 TX3 5, w ∈ lw_tbl := fun w h => List.mem_append_right _ (by
  have h2 : u_ws RX3 TX3 5 = ([36, 38, 40, 42, 44] : List Nat).filterMap (fun i => tables_1[i]?) := by decide +kernel
  rw [h2] at h; obtain ⟨i, -, hi⟩ := List.mem_filterMap.mp h; exact List.mem_of_getElem? hi)
theorem inX4 : ∀ w ∈ u_ws RX4 TX4 3, w ∈ lw_tbl := fun w h => List.mem_append_right _ (by
  have h2 : u_ws RX4 TX4 3 = ([136, 138, 140] : List Nat).filterMap (fun i => tables_1[i]?) := by decide +kernel
  rw [h2] at h; obtain ⟨i, -, hi⟩ := List.mem_filterMap.mp h; exact List.mem_of_getElem? hi)
theorem inX5 : ∀ w ∈ u_ws RX5 TX5 0, w ∈ lw_tbl := fun w h => List.mem_append_right _ (by
  have h2 : u_ws RX5 TX5 0 = ([] : List Nat).filterMap (fun i => tables_1[i]?) := by decide +kernel
  rw [h2] at h; obtain ⟨i, -, hi⟩ := List.mem_filterMap.mp h; exact List.mem_of_getElem? hi)
end
section
/-! the words of the tables, carried along by every contract -/
def tq_g : Cond → Bool
  | .fieldLinkNest _ _ _ _ _ _ => true
  | .methodLinkNest _ _ _ _ => true
  | .castable _ _ => true
  | .declares _ => true
  | w => goodWord w
def tq_T (s : State) : Prop := ∀ w ∈ lw_tbl, tq_g w = true → w.before #[] s = true
theorem tq_T.warm {s U : State} (hW : s.WarmedH U.vm) (h : tq_T s) : tq_T U := by
  intro w hw hg
  have h1 := h w hw hg
  cases w <;> first | exact va_Nw.warmF hW h1 | exact va_Nw.warmM hW h1 | exact va_Nw.warmC hW h1 | exact va_Nw.warmD hW h1 | exact word_at hW (good_of_word hg) h1
theorem tq_T.use {s : State} (h : tq_T s) {w : Cond} (hw : w ∈ lw_tbl) (hg : tq_g w = true) {a : Array Value} : w.before a s = true := by
  have h1 := h w hw hg
  cases w <;> first | exact va_Nw.use rfl h1 | exact word_at (State.WarmedH.refl s) (good_of_word hg) h1
/-- what is known of the running method -/
def tq_C (p : Program) (s : State) (m : MethodId) (meth : Method) (c : Code) (own : String) (cc : ByteArray) (nL : Nat) (ret : Option FieldType) : Prop :=
  p.tables.exec = Jvm.exec ∧ c.code = cc ∧ c.maxLocals = nL ∧ s.vm.findClass own = some m.cls ∧ meth.sig.returnType = ret ∧ meth.locks = false ∧ tq_T s
abbrev tq_ty (cy : ClassId) : List (ClassId × FieldType) := [(cy, .int)]
/-- a start that reads a world -/
def tq_Pf (D : va_G) (cy : ClassId) (Ws : va_W) (av : List Value) : Array Value → State → Prop := va_Pc av (fun U => tq_T U ∧ va_P D vwCl Ws U.heap ∧ va_K D vwCl (tq_ty cy) U)
/-- a start that may change a world -/
def tq_Pc (D : va_G) (cy : ClassId) (Ws : va_W) (sz : Nat) (av : List Value) : Array Value → State → Prop := va_Pc av (fun U => tq_T U ∧ U.heap.size = sz ∧ va_P D vwCl Ws U.heap ∧ va_K D vwCl (tq_ty cy) U ∧ va_D (fun _ => True) Ws)
theorem tq_calling {U : State} {g : JFrame} {mk : MethodId} {a : Array Value} (h : tq_T U) : tq_T (U.calling g mk a) := h.warm (State.WarmedH.refl U)
theorem tq_Pf.blind {D : va_G} {cy : ClassId} {Ws : va_W} {av : List Value} : FrameBlind (tq_Pf D cy Ws av) := fun a U g mk h =>
  ⟨h.1, tq_calling h.2.1, h.2.2.1, va_K.moved (u := U) (U := U.calling g mk a) (Vm.Alike.refl U.vm) h.2.2.2⟩
theorem tq_Pc.blind {D : va_G} {cy : ClassId} {Ws : va_W} {sz : Nat} {av : List Value} : FrameBlind (tq_Pc D cy Ws sz av) := fun a U g mk h =>
  ⟨h.1, tq_calling h.2.1, h.2.2.1, h.2.2.2.1, va_K.moved (u := U) (U := U.calling g mk a) (Vm.Alike.refl U.vm) h.2.2.2.2.1, h.2.2.2.2.2⟩
/-- ends -/
def tq_Qf (post : Int32 → Prop) : Array Value → State → Outcome → State → Prop := fun _ st oc t => (∃ r : Int32, oc = .returned (some (.int r)) ∧ post r) ∧ t.heap = st.heap
def tq_B {S : Type} (D : va_G) (A : Nat → Prop) (W2 : S → va_W) : S → State → Prop := fun u t => va_P D vwCl (W2 u) t.heap ∧ va_D A (W2 u)
/-- contracts: a read of a world, with an int; a change of a world, with an int; .. with no answer -/
def tq_F (l : Launch) (y : MethodName) (b : ByteArray) (nL : Nat) (ret : Option FieldType) (fr lo : Nat) (D : va_G) (cy : ClassId) (Ws : va_W) (av : List Value) (post : Int32 → Prop) : Prop :=
  Met l y [.code y b nL ret] { frames := fr, cells := 0, slots := 0, locals := lo } (tq_Pf D cy Ws av) (tq_Qf post) 0 0 (fun _ => False)
def tq_I {S : Type} (l : Launch) (y : MethodName) (b : ByteArray) (nL : Nat) (ret : Option FieldType) (fr lo mc ms : Nat) (D : va_G) (cy : ClassId) (Ws : va_W) (av : List Value) (post : Int32 → S → Prop) (W2 : S → va_W) : Prop :=
  ∀ sz : Nat, Met l y [.code y b nL ret] { frames := fr, cells := mc, slots := ms, locals := lo } (tq_Pc D cy Ws sz av) (va_Qi post (tq_B D (va_A Ws sz) W2) (va_A Ws sz)) mc ms (va_A Ws sz)
def tq_V {S : Type} (l : Launch) (y : MethodName) (b : ByteArray) (nL : Nat) (fr lo mc ms : Nat) (D : va_G) (cy : ClassId) (Ws : va_W) (av : List Value) (post : S → Prop) (W2 : S → va_W) : Prop :=
  ∀ sz : Nat, Met l y [.code y b nL none] { frames := fr, cells := mc, slots := ms, locals := lo } (tq_Pc D cy Ws sz av) (va_Qv post (tq_B D (va_A Ws sz) W2) (va_A Ws sz)) mc ms (va_A Ws sz)
theorem tq_code_in {y : MethodName} {b : ByteArray} {nL : Nat} {ret : Option FieldType} {s : State} (hT : tq_T s) (h : Cond.code y b nL ret ∈ lw_tbl) : ∀ w ∈ [Cond.code y b nL ret], ∀ (a' : Array Value) (U : State), s.WarmedH U.vm → w.before a' U = true := by
  intro w hw a' U hW
  rcases List.mem_singleton.mp hw with rfl
  exact (hT.warm hW).use h rfl
section TQ
variable {p : Program} {l : Launch} {e : Env} {R : Room} {s : State} {m : MethodId} {args : Array Value} {below : List Frame} {meth : Method} {c : Code} {H : Heap} {locs : List Loc} {cells slots : Nat} {Q : State → Prop}
variable {D : va_G} {cy : ClassId} {own : String} {cc : ByteArray} {nL : Nat} {rt : Option FieldType} {A : Nat → Prop} {ws Ws : va_W} {pc : Nat} {ls : Array Slot} {rest : List Value} {tys : List (ClassId × FieldType)}

theorem tq_F.mk {y : MethodName} {b : ByteArray} {ret : Option FieldType} {fr lo : Nat} {av : List Value} {post : Int32 → Prop} (hy : plainName y.cls = true) (he : (lg_sl av).length ≤ nL)
    (body : ∀ (p : Program) (e : Env) (s : State) (m : MethodId) (args : Array Value) (below : List Frame) (meth : Method) (c : Code), tq_C p s m meth c y.cls b nL ret → va_P D vwCl Ws s.heap → va_K D vwCl (tq_ty cy) s →
      ∀ ls : Array Slot, lv_has ls nL (lv_args 0 av) → W p l e { frames := fr, cells := 0, slots := 0, locals := lo } s m args below meth c s.heap [] 0 0 (MQ below (tq_Qf post) args s 0 0 (fun _ => False)) (F0 m 0 ls [])) :
    tq_F l y b nL ret fr lo D cy Ws av post := by
  refine Met.ofW (cc := b) (maxL := nL) (ret := ret) hy rfl ?_
  intro p e s m args below meth c s₁ B hml hv
  obtain ⟨rfl, hT, hP, hK⟩ := hv
  rw [lg_entry_eq]
  exact body p e s m _ below meth c ⟨B.exec, B.bytes, hml, findClass_of_methodNamed B.named, B.returns, B.notSynchronized, hT⟩ hP hK _ (lv_entry av he)
theorem tq_I.mk {S : Type} {y : MethodName} {b : ByteArray} {ret : Option FieldType} {fr lo mc ms : Nat} {av : List Value} {post : Int32 → S → Prop} {W2 : S → va_W} (hy : plainName y.cls = true) (he : (lg_sl av).length ≤ nL)
    (body : ∀ (p : Program) (e : Env) (s : State) (m : MethodId) (args : Array Value) (below : List Frame) (meth : Method) (c : Code) (A : Nat → Prop), tq_C p s m meth c y.cls b nL ret → va_P D vwCl Ws s.heap → va_K D vwCl (tq_ty cy) s →
      va_D A Ws → va_S A s.heap s.heap [] → (∀ q : Nat, s.heap.size ≤ q → A q) →
      ∀ ls : Array Slot, lv_has ls nL (lv_args 0 av) → W p l e { frames := fr, cells := mc, slots := ms, locals := lo } s m args below meth c s.heap [] 0 0 (MQ below (va_Qi post (tq_B D A W2) A) args s mc ms A) (F0 m 0 ls [])) :
    tq_I l y b nL ret fr lo mc ms D cy Ws av post W2 := by
  intro sz
  refine Met.ofW (cc := b) (maxL := nL) (ret := ret) hy rfl ?_
  intro p e s m args below meth c s₁ B hml hv
  obtain ⟨rfl, hT, hsz, hP, hK, hD0⟩ := hv
  subst hsz
  rw [lg_entry_eq]
  exact body p e s m _ below meth c _ ⟨B.exec, B.bytes, hml, findClass_of_methodNamed B.named, B.returns, B.notSynchronized, hT⟩ hP hK hD0.self va_S.rf (fun q h => Or.inr h) _ (lv_entry av he)
theorem tq_V.mk {S : Type} {y : MethodName} {b : ByteArray} {fr lo mc ms : Nat} {av : List Value} {post : S → Prop} {W2 : S → va_W} (hy : plainName y.cls = true) (he : (lg_sl av).length ≤ nL)
    (body : ∀ (p : Program) (e : Env) (s : State) (m : MethodId) (args : Array Value) (below : List Frame) (meth : Method) (c : Code) (A : Nat → Prop), tq_C p s m meth c y.cls b nL none → (meth.name = y.name) → va_P D vwCl Ws s.heap → va_K D vwCl (tq_ty cy) s →
      va_D A Ws → va_S A s.heap s.heap [] → (∀ q : Nat, s.heap.size ≤ q → A q) →
      ∀ ls : Array Slot, lv_has ls nL (lv_args 0 av) → W p l e { frames := fr, cells := mc, slots := ms, locals := lo } s m args below meth c s.heap [] 0 0 (MQ below (va_Qv post (tq_B D A W2) A) args s mc ms A) (F0 m 0 ls [])) :
    tq_V l y b nL fr lo mc ms D cy Ws av post W2 := by
  intro sz
  refine Met.ofW (cc := b) (maxL := nL) (ret := none) hy rfl ?_
  intro p e s m args below meth c s₁ B hml hv
  obtain ⟨rfl, hT, hsz, hP, hK, hD0⟩ := hv
  subst hsz
  rw [lg_entry_eq]
  exact body p e s m _ below meth c _ ⟨B.exec, B.bytes, hml, findClass_of_methodNamed B.named, B.returns, B.notSynchronized, hT⟩ (name_of_methodNamed B.named B.method).1 hP hK hD0.self va_S.rf (fun q h => Or.inr h) _ (lv_entry av he)
/-! ends -/
theorem tq_fret {post : Int32 → Prop} {v : Int32} {ty : FieldType} (C : tq_C p s m meth c own cc nL (some ty)) (hn : narrow ty (.int v) = .int v) (hpost : post v) (hdg : decode cc pc = .ok (.ireturn, 1)) :
    W p l e R s m args below meth c s.heap [] 0 0 (MQ below (tq_Qf post) args s 0 0 (fun _ => False)) (F0 m pc ls [.int v]) :=
  W.zret C.1 C.2.1 C.2.2.2.2.1 hn (fun t ht hW => ⟨⟨v, rfl, hpost⟩, ht⟩) (fun q h => nomatch h) hdg (hlocks := C.2.2.2.2.2.1)
theorem tq_iret {S : Type} {post : Int32 → S → Prop} {W2 : S → va_W} {v : Int32} {ty : FieldType} {mc ms : Nat} (C : tq_C p s m meth c own cc nL (some ty)) (hn : narrow ty (.int v) = .int v) (u : S) (hP : va_P D vwCl (W2 u) H) (hD : va_D A (W2 u)) (hS : va_S A s.heap H locs) (hpost : post v u) (hc : cells ≤ mc) (hs : slots ≤ ms) (hdg : decode cc pc = .ok (.ireturn, 1)) :
    W p l e R s m args below meth c H locs cells slots (MQ below (va_Qi post (tq_B D A W2) A) args s mc ms A) (F0 m pc ls [.int v]) :=
  W.widen hc hs (W.zret C.1 C.2.1 C.2.2.2.2.1 hn (fun t ht hW => ⟨⟨v, u, rfl, hpost, by rw [ht]; exact hP, hD⟩, hS.F ht⟩) hS.2.2 hdg (hlocks := C.2.2.2.2.2.1))
theorem tq_vret {S : Type} {post : S → Prop} {W2 : S → va_W} {mc ms : Nat} (C : tq_C p s m meth c own cc nL none) (u : S) (hP : va_P D vwCl (W2 u) H) (hD : va_D A (W2 u)) (hS : va_S A s.heap H locs) (hpost : post u) (hc : cells ≤ mc) (hs : slots ≤ ms) (hdg : decode cc pc = .ok (.return_, 1)) :
    W p l e R s m args below meth c H locs cells slots (MQ below (va_Qv post (tq_B D A W2) A) args s mc ms A) (F0 m pc ls []) :=
  W.widen hc hs (W.vret C.1 C.2.1 C.2.2.2.2.1 (fun t ht hW => ⟨⟨u, rfl, hpost, by rw [ht]; exact hP, hD⟩, hS.F ht⟩) hS.2.2 hdg (hlocks := C.2.2.2.2.2.1))
/-! fields -/
theorem tq_get (C : tq_C p s m meth c own cc nL rt) {C0 ref : String} {T : u_T} {N ci index k : Nat} (hg : (u_ws C0 T N).all tq_g = true) (hin : ∀ w ∈ u_ws C0 T N, w ∈ lw_tbl) (hc : vwCl[ci]? = some (C0, T, N)) (hk : k < N) (href : (T k).1 = ref) (hlink : Cond.fieldLink own index ref (T k).2.1 (T k).2.2.1 ∈ lw_tbl)
    (hK : va_K D vwCl tys s) (hP : va_P D vwCl ws H) (q0 : Nat) {a : Nat} {fs : List Value} {v : Value} (he : ws[q0]? = some (a, .inr (ci, fs))) (hv : fs[k]? = some v) (hdg : decode cc pc = .ok (.getfield index, 3))
    (kk : W p l e R s m args below meth c H locs cells slots Q (F0 m (pc + 3) ls (v :: rest))) : W p l e R s m args below meth c H locs cells slots Q (F0 m pc ls (.ref a :: rest)) :=
  va_get (Ts := u_ws C0 T N) C.1 C.2.1 (fun w h => C.2.2.2.2.2.2.use (hin w h) (List.all_eq_true.mp hg w h)) (fun _ h => h) C.2.2.2.1 hK hP q0 he hc k hk (C.2.2.2.2.2.2.use hlink rfl) (fun _ h => by subst href; exact h) hv hdg kk
theorem tq_getN (C : tq_C p s m meth c own cc nL rt) {C0 ref host : String} {T : u_T} {N ci index k : Nat} (hg : (u_ws C0 T N).all tq_g = true) (hin : ∀ w ∈ u_ws C0 T N, w ∈ lw_tbl) (hc : vwCl[ci]? = some (C0, T, N)) (hk : k < N) (href : (T k).1 = ref) (hlink : Cond.fieldLinkNest own index ref (T k).2.1 (T k).2.2.1 host ∈ lw_tbl)
    (hK : va_K D vwCl tys s) (hP : va_P D vwCl ws H) (q0 : Nat) {a : Nat} {fs : List Value} {v : Value} (he : ws[q0]? = some (a, .inr (ci, fs))) (hv : fs[k]? = some v) (hdg : decode cc pc = .ok (.getfield index, 3))
    (kk : W p l e R s m args below meth c H locs cells slots Q (F0 m (pc + 3) ls (v :: rest))) : W p l e R s m args below meth c H locs cells slots Q (F0 m pc ls (.ref a :: rest)) :=
  va_getN (Ts := u_ws C0 T N) C.1 C.2.1 (fun w h => C.2.2.2.2.2.2.use (hin w h) (List.all_eq_true.mp hg w h)) (fun _ h => h) C.2.2.2.1 hK hP q0 he hc k hk (C.2.2.2.2.2.2.use hlink rfl) (fun _ h => by subst href; exact h) hv hdg kk
theorem tq_put (C : tq_C p s m meth c own cc nL rt) {C0 ref : String} {T : u_T} {ty0 : Nat → FieldType} {N ci index k : Nat} {ty : FieldType} (hg : (u_ws C0 T N).all tq_g = true) (hin : ∀ w ∈ u_ws C0 T N, w ∈ lw_tbl) (hty : ∀ k, k < N → parseFieldDescriptor (T k).2.2.1 = some (ty0 k)) (hnm : ∀ a, a < N → ∀ b, b < N → a ≠ b → (T a).2.1 ≠ (T b).2.1) (hc : vwCl[ci]? = some (C0, T, N)) (hk : k < N) (href : (T k).1 = ref) (hlink : Cond.fieldLink own index ref (T k).2.1 (T k).2.2.1 ∈ lw_tbl) (hfin : (T k).2.2.2 = false) (hd : parseFieldDescriptor (T k).2.2.1 = some ty)
    (hK : va_K D vwCl tys s) (hP : va_P D vwCl ws H) (hD : va_D A ws) (hS : va_S A s.heap H locs) (q0 : Nat) {a : Nat} {fs : List Value} {v : Value} (he : ws[q0]? = some (a, .inr (ci, fs))) (hn : narrow ty v = v) (hfit : fits ty v = true) (hl : k < fs.length) (hdg : decode cc pc = .ok (.putfield index, 3))
    (kk : ∀ (H1 : Heap) (locs1 : List Loc), va_P D vwCl (ws.set q0 (a, .inr (ci, fs.set k v))) H1 → va_D A (ws.set q0 (a, .inr (ci, fs.set k v))) → va_S A s.heap H1 locs1 → W p l e R s m args below meth c H1 locs1 cells slots Q (F0 m (pc + 3) ls rest)) : W p l e R s m args below meth c H locs cells slots Q (F0 m pc ls (v :: .ref a :: rest)) :=
  va_put (Ts := u_ws C0 T N) C.1 C.2.1 (fun w h => C.2.2.2.2.2.2.use (hin w h) (List.all_eq_true.mp hg w h)) (fun _ h => h) ty0 hty hnm C.2.2.2.1 hK hP hD hS q0 he hc k hk (C.2.2.2.2.2.2.use hlink rfl) (fun _ h => by subst href; exact h) hfin hd hn hfit hl hdg kk
theorem tq_putN (C : tq_C p s m meth c own cc nL rt) {C0 ref host : String} {T : u_T} {ty0 : Nat → FieldType} {N ci index k : Nat} {ty : FieldType} (hg : (u_ws C0 T N).all tq_g = true) (hin : ∀ w ∈ u_ws C0 T N, w ∈ lw_tbl) (hty : ∀ k, k < N → parseFieldDescriptor (T k).2.2.1 = some (ty0 k)) (hnm : ∀ a, a < N → ∀ b, b < N → a ≠ b → (T a).2.1 ≠ (T b).2.1) (hc : vwCl[ci]? = some (C0, T, N)) (hk : k < N) (href : (T k).1 = ref) (hlink : Cond.fieldLinkNest own index ref (T k).2.1 (T k).2.2.1 host ∈ lw_tbl) (hfin : (T k).2.2.2 = false) (hd : parseFieldDescriptor (T k).2.2.1 = some ty)
    (hK : va_K D vwCl tys s) (hP : va_P D vwCl ws H) (hD : va_D A ws) (hS : va_S A s.heap H locs) (q0 : Nat) {a : Nat} {fs : List Value} {v : Value} (he : ws[q0]? = some (a, .inr (ci, fs))) (hn : narrow ty v = v) (hfit : fits ty v = true) (hl : k < fs.length) (hdg : decode cc pc = .ok (.putfield index, 3))
    (kk : ∀ (H1 : Heap) (locs1 : List Loc), va_P D vwCl (ws.set q0 (a, .inr (ci, fs.set k v))) H1 → va_D A (ws.set q0 (a, .inr (ci, fs.set k v))) → va_S A s.heap H1 locs1 → W p l e R s m args below meth c H1 locs1 cells slots Q (F0 m (pc + 3) ls rest)) : W p l e R s m args below meth c H locs cells slots Q (F0 m pc ls (v :: .ref a :: rest)) :=
  va_putN (Ts := u_ws C0 T N) C.1 C.2.1 (fun w h => C.2.2.2.2.2.2.use (hin w h) (List.all_eq_true.mp hg w h)) (fun _ h => h) ty0 hty hnm C.2.2.2.1 hK hP hD hS q0 he hc k hk (C.2.2.2.2.2.2.use hlink rfl) (fun _ h => by subst href; exact h) hfin hd hn hfit hl hdg kk
theorem tq_putF (C : tq_C p s m meth c own cc nL rt) (hi : meth.name = "<init>") {C0 ref : String} {T : u_T} {ty0 : Nat → FieldType} {N ci index k : Nat} {ty : FieldType} (hg : (u_ws C0 T N).all tq_g = true) (hin : ∀ w ∈ u_ws C0 T N, w ∈ lw_tbl) (hty : ∀ k, k < N → parseFieldDescriptor (T k).2.2.1 = some (ty0 k)) (hnm : ∀ a, a < N → ∀ b, b < N → a ≠ b → (T a).2.1 ≠ (T b).2.1) (hc : vwCl[ci]? = some (C0, T, N)) (hk : k < N) (href : (T k).1 = ref) (hown2 : (T k).1 = own) (hlink : Cond.fieldLink own index ref (T k).2.1 (T k).2.2.1 ∈ lw_tbl) (hfin : (T k).2.2.2 = true) (hd : parseFieldDescriptor (T k).2.2.1 = some ty)
    (hK : va_K D vwCl tys s) (hP : va_P D vwCl ws H) (hD : va_D A ws) (hS : va_S A s.heap H locs) (q0 : Nat) {a : Nat} {fs : List Value} {v : Value} (he : ws[q0]? = some (a, .inr (ci, fs))) (hn : narrow ty v = v) (hfit : fits ty v = true) (hl : k < fs.length) (hdg : decode cc pc = .ok (.putfield index, 3))
    (kk : ∀ (H1 : Heap) (locs1 : List Loc), va_P D vwCl (ws.set q0 (a, .inr (ci, fs.set k v))) H1 → va_D A (ws.set q0 (a, .inr (ci, fs.set k v))) → va_S A s.heap H1 locs1 → W p l e R s m args below meth c H1 locs1 cells slots Q (F0 m (pc + 3) ls rest)) : W p l e R s m args below meth c H locs cells slots Q (F0 m pc ls (v :: .ref a :: rest)) :=
  va_putF (Ts := u_ws C0 T N) C.1 C.2.1 (fun w h => C.2.2.2.2.2.2.use (hin w h) (List.all_eq_true.mp hg w h)) (fun _ h => h) ty0 hty hnm C.2.2.2.1 hK hP hD hS q0 he hc k hk (C.2.2.2.2.2.2.use hlink rfl) (fun _ h => by subst href; exact h) hfin hi hown2 hd hn hfit hl hdg kk
/-! arrays of small numbers -/
theorem tq_upd (f : Nat → Nat) (i v : Nat) : upd (fun j => nI (f j)) i (nI v) = fun j => nI (va_up f i v j) := by
  funext j
  by_cases h : j = i <;> simp [upd, va_up, h]
theorem tq_iald (C : tq_C p s m meth c own cc nL rt) (hK : va_K D vwCl tys s) (hP : va_P D vwCl ws H) (q0 t0 : Nat) {a n i : Nat} {f : Nat → Nat} (ha : ws[q0]? = some (a, .inl (cy, n, .inl (fun j => nI (f j))))) (ht : tys[t0]? = some (cy, .int)) (hi : i < n) (hn : n < 2 ^ 31) (hdg : decode cc pc = .ok (.iaload, 1))
    (kk : W p l e R s m args below meth c H locs cells slots Q (F0 m (pc + 1) ls (.int (nI (f i)) :: rest))) : W p l e R s m args below meth c H locs cells slots Q (F0 m pc ls (.int (nI i) :: .ref a :: rest)) := by
  refine va_iald C.1 C.2.1 hK hP q0 t0 ha ht (vp_in_nI hi hn) hdg ?_
  rw [nI_clamp (Nat.lt_trans hi hn)]
  exact kk
theorem tq_iast (C : tq_C p s m meth c own cc nL rt) (hK : va_K D vwCl tys s) (hP : va_P D vwCl ws H) (hD : va_D A ws) (hS : va_S A s.heap H locs) (q0 t0 : Nat) {a n i v : Nat} {f : Nat → Nat} (ha : ws[q0]? = some (a, .inl (cy, n, .inl (fun j => nI (f j))))) (ht : tys[t0]? = some (cy, .int)) (hi : i < n) (hn : n < 2 ^ 31) (hdg : decode cc pc = .ok (.iastore, 1))
    (kk : ∀ (H1 : Heap) (locs1 : List Loc), va_P D vwCl (ws.set q0 (a, .inl (cy, n, .inl (fun j => nI (va_up f i v j))))) H1 → va_D A (ws.set q0 (a, .inl (cy, n, .inl (fun j => nI (va_up f i v j))))) → va_S A s.heap H1 locs1 → W p l e R s m args below meth c H1 locs1 cells slots Q (F0 m (pc + 1) ls rest)) : W p l e R s m args below meth c H locs cells slots Q (F0 m pc ls (.int (nI v) :: .int (nI i) :: .ref a :: rest)) := by
  refine va_iast C.1 C.2.1 hK hP hD hS q0 t0 ha ht (vp_in_nI hi hn) hdg ?_
  rw [nI_clamp (Nat.lt_trans hi hn), tq_upd]
  exact kk
/-! numbers -/
theorem tq_top {x y : Int32} (h : x = y) (k : W p l e R s m args below meth c H locs cells slots Q (F0 m pc ls (.int y :: rest))) : W p l e R s m args below meth c H locs cells slots Q (F0 m pc ls (.int x :: rest)) := h ▸ k
theorem tq_iadd (C : tq_C p s m meth c own cc nL rt) {a b : Nat} (hdg : decode cc pc = .ok (.iadd, 1)) (k : W p l e R s m args below meth c H locs cells slots Q (F0 m (pc + 1) ls (.int (nI (a + b)) :: rest))) : W p l e R s m args below meth c H locs cells slots Q (F0 m pc ls (.int (nI b) :: .int (nI a) :: rest)) :=
  lv_iadd C.1 C.2.1 hdg (tq_top (nI_add a b) k)
theorem tq_isub (C : tq_C p s m meth c own cc nL rt) {a b : Nat} (h : b ≤ a) (hdg : decode cc pc = .ok (.isub, 1)) (k : W p l e R s m args below meth c H locs cells slots Q (F0 m (pc + 1) ls (.int (nI (a - b)) :: rest))) : W p l e R s m args below meth c H locs cells slots Q (F0 m pc ls (.int (nI b) :: .int (nI a) :: rest)) :=
  lv_isub C.1 C.2.1 hdg (tq_top (pk_sub h) k)
theorem tq_imul (C : tq_C p s m meth c own cc nL rt) {a b : Nat} (hdg : decode cc pc = .ok (.imul, 1)) (k : W p l e R s m args below meth c H locs cells slots Q (F0 m (pc + 1) ls (.int (nI (a * b)) :: rest))) : W p l e R s m args below meth c H locs cells slots Q (F0 m pc ls (.int (nI b) :: .int (nI a) :: rest)) :=
  lv_imul C.1 C.2.1 hdg (tq_top (pk_mul a b) k)
theorem tq_nI0 {n : Nat} (h : 0 < n) (hn : n < 2 ^ 31) : ¬ nI n = 0 := nI_ne0 h hn
theorem tq_idiv (C : tq_C p s m meth c own cc nL rt) {a b : Nat} (h0 : 0 < b) (ha : a < 2 ^ 31) (hb : b < 2 ^ 31) (hdg : decode cc pc = .ok (.idiv, 1)) (k : W p l e R s m args below meth c H locs cells slots Q (F0 m (pc + 1) ls (.int (nI (a / b)) :: rest))) : W p l e R s m args below meth c H locs cells slots Q (F0 m pc ls (.int (nI b) :: .int (nI a) :: rest)) :=
  lv_idiv C.1 C.2.1 hdg (nI_ne0 h0 hb) (tq_top (pk_div ha h0 hb) k)
theorem tq_sh : ∀ k, k < 32 → ((nI k &&& 31).toBitVec.smod 32).toNat = k := by decide +kernel
theorem tq_ishl (C : tq_C p s m meth c own cc nL rt) {a b : Nat} (hb : b < 32) (h : a * 2 ^ b < 2 ^ 32) (hdg : decode cc pc = .ok (.ishl, 1)) (k : W p l e R s m args below meth c H locs cells slots Q (F0 m (pc + 1) ls (.int (nI (a * 2 ^ b)) :: rest))) : W p l e R s m args below meth c H locs cells slots Q (F0 m pc ls (.int (nI b) :: .int (nI a) :: rest)) :=
  lv_ishl C.1 C.2.1 hdg (tq_top (pk_shlN _ b (tq_sh b hb) h) k)
theorem tq_ishr (C : tq_C p s m meth c own cc nL rt) {a b : Nat} (hb : b < 32) (h : a < 2 ^ 31) (hdg : decode cc pc = .ok (.ishr, 1)) (k : W p l e R s m args below meth c H locs cells slots Q (F0 m (pc + 1) ls (.int (nI (a / 2 ^ b)) :: rest))) : W p l e R s m args below meth c H locs cells slots Q (F0 m pc ls (.int (nI b) :: .int (nI a) :: rest)) :=
  lv_ishr C.1 C.2.1 hdg (tq_top (pk_shrN h _ b (tq_sh b hb)) k)
theorem tq_iandM (C : tq_C p s m meth c own cc nL rt) {a b n : Nat} (hb : b ≤ 31) (hn : n = 2 ^ b - 1) (h : a < 2 ^ 32) (hdg : decode cc pc = .ok (.iand, 1)) (k : W p l e R s m args below meth c H locs cells slots Q (F0 m (pc + 1) ls (.int (nI (a % 2 ^ b)) :: rest))) : W p l e R s m args below meth c H locs cells slots Q (F0 m pc ls (.int (nI n) :: .int (nI a) :: rest)) := by
  refine lv_iand C.1 C.2.1 hdg (tq_top (pk_andN h b ?_) k)
  have h2 : (2 : Nat) ^ b ≤ 2 ^ 31 := Nat.pow_le_pow_right (by decide) hb
  rw [hn, pk_tn (by omega)]
theorem tq_bv {n : Nat} (h : n < 2 ^ 32) : (nI n).toBitVec = BitVec.ofNat 32 n := BitVec.eq_of_toNat_eq (by rw [pk_tn h, BitVec.toNat_ofNat, Nat.mod_eq_of_lt h])
theorem tq_ixorE {a b : Nat} (ha : a < 2 ^ 32) (hb : b < 2 ^ 32) : nI a ^^^ nI b = nI (a ^^^ b) := by
  apply Int32.toBitVec_inj.mp
  apply BitVec.eq_of_toNat_eq
  rw [Int32.toBitVec_xor, BitVec.toNat_xor, pk_tn ha, pk_tn hb, pk_tn (Nat.xor_lt_two_pow ha hb)]
theorem tq_iorE {a b : Nat} (ha : a < 2 ^ 32) (hb : b < 2 ^ 32) : nI a ||| nI b = nI (a ||| b) := by
  apply Int32.toBitVec_inj.mp
  apply BitVec.eq_of_toNat_eq
  rw [Int32.toBitVec_or, BitVec.toNat_or, pk_tn ha, pk_tn hb, pk_tn (Nat.or_lt_two_pow ha hb)]
theorem tq_ixor (C : tq_C p s m meth c own cc nL rt) {a b : Nat} (ha : a < 2 ^ 32) (hb : b < 2 ^ 32) (hdg : decode cc pc = .ok (.ixor, 1)) (k : W p l e R s m args below meth c H locs cells slots Q (F0 m (pc + 1) ls (.int (nI (a ^^^ b)) :: rest))) : W p l e R s m args below meth c H locs cells slots Q (F0 m pc ls (.int (nI b) :: .int (nI a) :: rest)) :=
  lv_ixor C.1 C.2.1 hdg (tq_top (tq_ixorE ha hb) k)
theorem tq_ior (C : tq_C p s m meth c own cc nL rt) {a b : Nat} (ha : a < 2 ^ 32) (hb : b < 2 ^ 32) (hdg : decode cc pc = .ok (.ior, 1)) (k : W p l e R s m args below meth c H locs cells slots Q (F0 m (pc + 1) ls (.int (nI (a ||| b)) :: rest))) : W p l e R s m args below meth c H locs cells slots Q (F0 m pc ls (.int (nI b) :: .int (nI a) :: rest)) :=
  lv_ior C.1 C.2.1 hdg (tq_top (tq_iorE ha hb) k)
end TQ
end
section
section TR
variable {p : Program} {l : Launch} {e : Env} {R : Room} {s : State} {m : MethodId} {args : Array Value} {below : List Frame} {meth : Method} {c : Code} {H : Heap} {locs : List Loc} {cells slots : Nat} {Q : State → Prop}
variable {D : va_G} {cy : ClassId} {own : String} {cc : ByteArray} {nL : Nat} {rt : Option FieldType} {A : Nat → Prop} {ws Ws Wc wr : va_W} {pc : Nat} {ls : Array Slot} {rest : List Value}
/-! comparisons of small numbers -/
theorem tq_icmp_eq (C : tq_C p s m meth c own cc nL rt) {a b tgt : Nat} {off : Int} (ha : a < 2 ^ 31) (hb : b < 2 ^ 31) (hdg : decode cc pc = .ok (.if_icmp .eq off, 3)) (ht : (pc : Int) + off = (tgt : Int))
    (kt : a = b → W p l e R s m args below meth c H locs cells slots Q (F0 m tgt ls rest)) (kf : a ≠ b → W p l e R s m args below meth c H locs cells slots Q (F0 m (pc + 3) ls rest)) : W p l e R s m args below meth c H locs cells slots Q (F0 m pc ls (.int (nI b) :: .int (nI a) :: rest)) :=
  lv_icmp_eq C.1 C.2.1 hdg ht (fun h => kt ((nI_eq ha hb).mp h)) (fun h => kf (fun q => h (by rw [q])))
theorem tq_icmp_ne (C : tq_C p s m meth c own cc nL rt) {a b tgt : Nat} {off : Int} (ha : a < 2 ^ 31) (hb : b < 2 ^ 31) (hdg : decode cc pc = .ok (.if_icmp .ne off, 3)) (ht : (pc : Int) + off = (tgt : Int))
    (kt : a ≠ b → W p l e R s m args below meth c H locs cells slots Q (F0 m tgt ls rest)) (kf : a = b → W p l e R s m args below meth c H locs cells slots Q (F0 m (pc + 3) ls rest)) : W p l e R s m args below meth c H locs cells slots Q (F0 m pc ls (.int (nI b) :: .int (nI a) :: rest)) :=
  lv_icmp_ne C.1 C.2.1 hdg ht (fun h => kt (fun q => h (by rw [q]))) (fun h => kf ((nI_eq ha hb).mp h))
theorem tq_icmp_lt (C : tq_C p s m meth c own cc nL rt) {a b tgt : Nat} {off : Int} (ha : a < 2 ^ 31) (hb : b < 2 ^ 31) (hdg : decode cc pc = .ok (.if_icmp .lt off, 3)) (ht : (pc : Int) + off = (tgt : Int))
    (kt : a < b → W p l e R s m args below meth c H locs cells slots Q (F0 m tgt ls rest)) (kf : b ≤ a → W p l e R s m args below meth c H locs cells slots Q (F0 m (pc + 3) ls rest)) : W p l e R s m args below meth c H locs cells slots Q (F0 m pc ls (.int (nI b) :: .int (nI a) :: rest)) :=
  lv_icmp_lt C.1 C.2.1 hdg ht (fun h => kt ((nI_ltI ha hb).mp h)) (fun h => kf (Nat.le_of_not_lt (fun q => h ((nI_ltI ha hb).mpr q))))
theorem tq_icmp_ge (C : tq_C p s m meth c own cc nL rt) {a b tgt : Nat} {off : Int} (ha : a < 2 ^ 31) (hb : b < 2 ^ 31) (hdg : decode cc pc = .ok (.if_icmp .ge off, 3)) (ht : (pc : Int) + off = (tgt : Int))
    (kt : b ≤ a → W p l e R s m args below meth c H locs cells slots Q (F0 m tgt ls rest)) (kf : a < b → W p l e R s m args below meth c H locs cells slots Q (F0 m (pc + 3) ls rest)) : W p l e R s m args below meth c H locs cells slots Q (F0 m pc ls (.int (nI b) :: .int (nI a) :: rest)) :=
  lv_icmp_ge C.1 C.2.1 hdg ht (fun h => kt ((nI_leI hb ha).mp h)) (fun h => kf (Nat.lt_of_not_le (fun q => h ((nI_leI hb ha).mpr q))))
theorem tq_icmp_gt (C : tq_C p s m meth c own cc nL rt) {a b tgt : Nat} {off : Int} (ha : a < 2 ^ 31) (hb : b < 2 ^ 31) (hdg : decode cc pc = .ok (.if_icmp .gt off, 3)) (ht : (pc : Int) + off = (tgt : Int))
    (kt : b < a → W p l e R s m args below meth c H locs cells slots Q (F0 m tgt ls rest)) (kf : a ≤ b → W p l e R s m args below meth c H locs cells slots Q (F0 m (pc + 3) ls rest)) : W p l e R s m args below meth c H locs cells slots Q (F0 m pc ls (.int (nI b) :: .int (nI a) :: rest)) :=
  lv_icmp_gt C.1 C.2.1 hdg ht (fun h => kt ((nI_ltI hb ha).mp h)) (fun h => kf (Nat.le_of_not_lt (fun q => h ((nI_ltI hb ha).mpr q))))
theorem tq_icmp_le (C : tq_C p s m meth c own cc nL rt) {a b tgt : Nat} {off : Int} (ha : a < 2 ^ 31) (hb : b < 2 ^ 31) (hdg : decode cc pc = .ok (.if_icmp .le off, 3)) (ht : (pc : Int) + off = (tgt : Int))
    (kt : a ≤ b → W p l e R s m args below meth c H locs cells slots Q (F0 m tgt ls rest)) (kf : b < a → W p l e R s m args below meth c H locs cells slots Q (F0 m (pc + 3) ls rest)) : W p l e R s m args below meth c H locs cells slots Q (F0 m pc ls (.int (nI b) :: .int (nI a) :: rest)) :=
  lv_icmp_le C.1 C.2.1 hdg ht (fun h => kt ((nI_leI ha hb).mp h)) (fun h => kf (Nat.lt_of_not_le (fun q => h ((nI_leI ha hb).mpr q))))
theorem tq_nI0iff {a : Nat} (ha : a < 2 ^ 31) : nI a = 0 ↔ a = 0 := ⟨fun h => by
  rw [← nI_0] at h
  exact (nI_eq ha (by decide)).mp h, fun h => by rw [h, nI_0]⟩
theorem tq_if_eq (C : tq_C p s m meth c own cc nL rt) {a tgt : Nat} {off : Int} (ha : a < 2 ^ 31) (hdg : decode cc pc = .ok (.ifCond .eq off, 3)) (ht : (pc : Int) + off = (tgt : Int))
    (kt : a = 0 → W p l e R s m args below meth c H locs cells slots Q (F0 m tgt ls rest)) (kf : a ≠ 0 → W p l e R s m args below meth c H locs cells slots Q (F0 m (pc + 3) ls rest)) : W p l e R s m args below meth c H locs cells slots Q (F0 m pc ls (.int (nI a) :: rest)) :=
  lv_if_eq C.1 C.2.1 hdg ht (fun h => kt ((tq_nI0iff ha).mp h)) (fun h => kf (fun q => h ((tq_nI0iff ha).mpr q)))
theorem tq_if_ne (C : tq_C p s m meth c own cc nL rt) {a tgt : Nat} {off : Int} (ha : a < 2 ^ 31) (hdg : decode cc pc = .ok (.ifCond .ne off, 3)) (ht : (pc : Int) + off = (tgt : Int))
    (kt : a ≠ 0 → W p l e R s m args below meth c H locs cells slots Q (F0 m tgt ls rest)) (kf : a = 0 → W p l e R s m args below meth c H locs cells slots Q (F0 m (pc + 3) ls rest)) : W p l e R s m args below meth c H locs cells slots Q (F0 m pc ls (.int (nI a) :: rest)) :=
  lv_if_ne C.1 C.2.1 hdg ht (fun h => kt (fun q => h ((tq_nI0iff ha).mpr q))) (fun h => kf ((tq_nI0iff ha).mp h))
theorem tq_if_gt (C : tq_C p s m meth c own cc nL rt) {a tgt : Nat} {off : Int} (ha : a < 2 ^ 31) (hdg : decode cc pc = .ok (.ifCond .gt off, 3)) (ht : (pc : Int) + off = (tgt : Int))
    (kt : 0 < a → W p l e R s m args below meth c H locs cells slots Q (F0 m tgt ls rest)) (kf : a = 0 → W p l e R s m args below meth c H locs cells slots Q (F0 m (pc + 3) ls rest)) : W p l e R s m args below meth c H locs cells slots Q (F0 m pc ls (.int (nI a) :: rest)) :=
  lv_if_gt C.1 C.2.1 hdg ht (fun h => kt (by rw [← nI_0] at h; exact (nI_ltI (by decide) ha).mp h)) (fun h => kf (Nat.eq_zero_of_not_pos (fun q => h (by rw [← nI_0]; exact (nI_ltI (by decide) ha).mpr q))))
theorem tq_if_le (C : tq_C p s m meth c own cc nL rt) {a tgt : Nat} {off : Int} (ha : a < 2 ^ 31) (hdg : decode cc pc = .ok (.ifCond .le off, 3)) (ht : (pc : Int) + off = (tgt : Int))
    (kt : a = 0 → W p l e R s m args below meth c H locs cells slots Q (F0 m tgt ls rest)) (kf : 0 < a → W p l e R s m args below meth c H locs cells slots Q (F0 m (pc + 3) ls rest)) : W p l e R s m args below meth c H locs cells slots Q (F0 m pc ls (.int (nI a) :: rest)) :=
  lv_if_le C.1 C.2.1 hdg ht (fun h => kt (by rw [← nI_0] at h; exact Nat.le_zero.mp ((nI_leI ha (by decide)).mp h))) (fun h => kf (Nat.pos_of_ne_zero (fun q => h (by rw [q]; decide))))
theorem tq_if_lt (C : tq_C p s m meth c own cc nL rt) {a tgt : Nat} {off : Int} (ha : a < 2 ^ 31) (hdg : decode cc pc = .ok (.ifCond .lt off, 3)) (ht : (pc : Int) + off = (tgt : Int))
    (kf : W p l e R s m args below meth c H locs cells slots Q (F0 m (pc + 3) ls rest)) : W p l e R s m args below meth c H locs cells slots Q (F0 m pc ls (.int (nI a) :: rest)) :=
  lv_if_lt C.1 C.2.1 hdg ht (fun h => absurd h (nI_pos ha)) (fun _ => kf)
theorem tq_if_ge (C : tq_C p s m meth c own cc nL rt) {a tgt : Nat} {off : Int} (ha : a < 2 ^ 31) (hdg : decode cc pc = .ok (.ifCond .ge off, 3)) (ht : (pc : Int) + off = (tgt : Int))
    (kt : W p l e R s m args below meth c H locs cells slots Q (F0 m tgt ls rest)) : W p l e R s m args below meth c H locs cells slots Q (F0 m pc ls (.int (nI a) :: rest)) :=
  lv_if_ge C.1 C.2.1 hdg ht (fun _ => kt) (fun h => absurd (nI_pos' ha) h)
/-! links of calls, by the words' places -/
theorem tq_C.fix (C : tq_C p s m meth c own cc nL rt) : CallFix p m c cc nL s args [] own := ⟨C.1, C.2.1, C.2.2.1, C.2.2.2.1, fun _ h => nomatch h⟩
theorem tq_cB {y : MethodName} {b1 : ByteArray} {n1 n idx fr lo mc ms : Nat} {ret : Option FieldType} (C : tq_C p s m meth c own cc nL rt) (h1 : Cond.methodLink own idx y ∈ lw_tbl) (h4 : Cond.initialized y.cls ∈ lw_tbl) (h5 : Cond.code y b1 n1 ret ∈ lw_tbl)
    (hd : y.cls ≠ "java/lang/invoke/MethodHandle" ∧ y.cls ≠ "java/lang/invoke/VarHandle" ∧ (parseMethodDescriptor y.desc).map (fun d => d.parameters.length) = some n) (hR : fr + 1 ≤ R.frames ∧ 8 + (n1 + 11) + lo ≤ R.locals) :
    CallB R s args own idx y b1 n1 ret [.code y b1 n1 ret] { frames := fr, cells := mc, slots := ms, locals := lo } mc ms n :=
  ⟨rfl, rfl, hR.1, hR.2, tq_code_in C.2.2.2.2.2.2 h5, List.mem_cons_self, C.2.2.2.2.2.2.use h5 rfl, C.2.2.2.2.2.2.use h4 rfl, ⟨hd.1, hd.2.1⟩, fun sig h => by
    have h2 := hd.2.2
    rw [h] at h2
    exact (Option.some.inj h2).symm, C.2.2.2.2.2.2.use h1 rfl⟩
theorem tq_cV {C0 : String} {y : MethodName} {b1 : ByteArray} {n1 n idx fr lo mc ms : Nat} {ret : Option FieldType} (C : tq_C p s m meth c own cc nL rt) (h1 : Cond.methodLink own idx y ∈ lw_tbl) (h2 : Cond.instanceMethod y ∈ lw_tbl) (h3 : Cond.selects C0 y y ∈ lw_tbl) (h4 : Cond.initialized y.cls ∈ lw_tbl) (h5 : Cond.code y b1 n1 ret ∈ lw_tbl)
    (hd : y.cls ≠ "java/lang/invoke/MethodHandle" ∧ y.cls ≠ "java/lang/invoke/VarHandle" ∧ (parseMethodDescriptor y.desc).map (fun d => d.parameters.length) = some n) (hR : fr + 1 ≤ R.frames ∧ 8 + (n1 + 11) + lo ≤ R.locals) :
    CallW R s args own C0 idx y b1 n1 ret [.code y b1 n1 ret] { frames := fr, cells := mc, slots := ms, locals := lo } mc ms n :=
  ⟨tq_cB C h1 h4 h5 hd hR, C.2.2.2.2.2.2.use h2 rfl, C.2.2.2.2.2.2.use h3 rfl⟩
theorem tq_cS {y : MethodName} {b1 : ByteArray} {n1 n idx fr lo mc ms : Nat} {ret : Option FieldType} (C : tq_C p s m meth c own cc nL rt) (h1 : Cond.methodLink own idx y ∈ lw_tbl) (h2 : Cond.static y ∈ lw_tbl) (h4 : Cond.initialized y.cls ∈ lw_tbl) (h5 : Cond.code y b1 n1 ret ∈ lw_tbl)
    (hd : y.cls ≠ "java/lang/invoke/MethodHandle" ∧ y.cls ≠ "java/lang/invoke/VarHandle" ∧ (parseMethodDescriptor y.desc).map (fun d => d.parameters.length) = some n) (hR : fr + 1 ≤ R.frames ∧ 8 + (n1 + 11) + lo ≤ R.locals) :
    CallB R s args own idx y b1 n1 ret [.code y b1 n1 ret] { frames := fr, cells := mc, slots := ms, locals := lo } mc ms n ∧ (Cond.static y).before args s = true :=
  ⟨tq_cB C h1 h4 h5 hd hR, C.2.2.2.2.2.2.use h2 rfl⟩
theorem tq_cN {host : String} {y : MethodName} {b1 : ByteArray} {n1 n idx fr lo mc ms : Nat} {ret : Option FieldType} (C : tq_C p s m meth c own cc nL rt) (h1 : Cond.methodLinkNest own idx y host ∈ lw_tbl) (h2 : Cond.static y ∈ lw_tbl) (h4 : Cond.initialized y.cls ∈ lw_tbl) (h5 : Cond.code y b1 n1 ret ∈ lw_tbl)
    (hd : y.cls ≠ "java/lang/invoke/MethodHandle" ∧ y.cls ≠ "java/lang/invoke/VarHandle" ∧ (parseMethodDescriptor y.desc).map (fun d => d.parameters.length) = some n) (hR : fr + 1 ≤ R.frames ∧ 8 + (n1 + 11) + lo ≤ R.locals) :
    va_CN R s args own idx y host b1 n1 ret [.code y b1 n1 ret] { frames := fr, cells := mc, slots := ms, locals := lo } mc ms n ∧ (Cond.static y).before args s = true ∧ True :=
  ⟨⟨⟨rfl, rfl, hR.1, hR.2, tq_code_in C.2.2.2.2.2.2 h5, List.mem_cons_self⟩, C.2.2.2.2.2.2.use h5 rfl, C.2.2.2.2.2.2.use h4 rfl, ⟨hd.1, hd.2.1⟩, fun sig h => by
    have h2 := hd.2.2
    rw [h] at h2
    exact (Option.some.inj h2).symm, C.2.2.2.2.2.2.use h1 rfl⟩, C.2.2.2.2.2.2.use h2 rfl, trivial⟩
theorem tq_cI {y : MethodName} {b1 : ByteArray} {n1 n idx fr lo mc ms : Nat} (C : tq_C p s m meth c own cc nL rt) (h1 : Cond.methodLink own idx y ∈ lw_tbl) (h2 : Cond.instanceMethod y ∈ lw_tbl) (h4 : Cond.initialized y.cls ∈ lw_tbl) (h5 : Cond.code y b1 n1 none ∈ lw_tbl) (hy : y.name = "<init>")
    (hd : y.cls ≠ "java/lang/invoke/MethodHandle" ∧ y.cls ≠ "java/lang/invoke/VarHandle" ∧ (parseMethodDescriptor y.desc).map (fun d => d.parameters.length) = some n) (hR : fr + 1 ≤ R.frames ∧ 8 + (n1 + 11) + lo ≤ R.locals) :
    CallB R s args own idx y b1 n1 none [.code y b1 n1 none] { frames := fr, cells := mc, slots := ms, locals := lo } mc ms n ∧ y.name = "<init>" ∧ (Cond.instanceMethod y).before args s = true :=
  ⟨tq_cB C h1 h4 h5 hd hR, hy, C.2.2.2.2.2.2.use h2 rfl⟩
/-! what a callee finds -/
theorem tq_preF {av : List Value} (C : tq_C p s m meth c own cc nL rt) (hK : va_K D vwCl (tq_ty cy) s) (hP : va_P D vwCl Wc H) : ∀ U : State, U.heap = H → s.WarmedH U.vm → tq_Pf D cy Wc av av.toArray U :=
  fun U hU hW => ⟨rfl, C.2.2.2.2.2.2.warm hW, by rw [hU]; exact hP, va_K.moved hW.alike hK⟩
theorem tq_preC {av : List Value} (C : tq_C p s m meth c own cc nL rt) (hK : va_K D vwCl (tq_ty cy) s) (hP : va_P D vwCl Wc H) (hD : va_D A Wc) : ∀ U : State, U.heap = H → s.WarmedH U.vm → tq_Pc D cy Wc H.size av av.toArray U :=
  fun U hU hW => ⟨rfl, C.2.2.2.2.2.2.warm hW, by rw [hU], by rw [hU]; exact hP, va_K.moved hW.alike hK, hD.weaken (fun _ _ _ _ => trivial)⟩
/-! behind a call -/
theorem tq_nil {L : List Loc} (h : ∀ q ∈ L, False) : L = [] := List.eq_nil_iff_forall_not_mem.mpr h
theorem tq_callF {post : Int32 → Prop} {a : Array Value} {st0 : List Value} (hr : va_Run p l e R s m args below meth c H locs cells slots 0 0 (F0 m pc ls st0) rest (tq_Qf post a) (fun _ => False))
    (kk : ∀ r : Int32, post r → W p l e R s m args below meth c H locs cells slots Q (F0 m (pc + 3) ls (.int r :: rest))) : W p l e R s m args below meth c H locs cells slots Q (F0 m pc ls st0) := by
  intro T hT X
  obtain ⟨v, st₀, t, T', L, h0, X', hL, e1, e2, ⟨⟨r, hv, hp⟩, hh⟩, st⟩ := hr T hT X
  cases hv
  obtain rfl := tq_nil hL
  rw [List.append_nil] at X'
  obtain ⟨t2, a1, b1⟩ := kk r hp T' (by rw [e1, hh, h0]) X'
  exact ⟨t2, st t2 a1, b1⟩
theorem tq_pick {w w' : va_W} {is : List Nat} (h : is.map (fun i => w[i]?) = w'.map some) : is.filterMap (fun i => w[i]?) = w' := by
  have h2 : is.filterMap (fun i => w[i]?) = (is.map (fun i => w[i]?)).filterMap id := by rw [List.filterMap_map]; rfl
  rw [h2, h, List.filterMap_map]
  simp
theorem tq_callI {S : Type} {post : Int32 → S → Prop} {W2 : S → va_W} {W3 : S → va_W} {mc ms : Nat} {a : Array Value} {st0 : List Value} (hr : va_Run p l e R s m args below meth c H locs cells slots mc ms (F0 m pc ls st0) rest (va_Qi post (tq_B D (va_A Wc H.size) W2) (va_A Wc H.size) a) (va_A Wc H.size))
    (hP : va_P D vwCl ws H) (hD : va_D A ws) (hS : va_S A s.heap H locs) (hA : ∀ q : Nat, s.heap.size ≤ q → A q) (isC isR isF : List Nat) (hC : isC.map (fun i => ws[i]?) = Wc.map some) (hR : isR.map (fun i => ws[i]?) = wr.map some) (hn : va_nd isR = true) (hdis : ∀ i ∈ isR, i ∉ isC) (hnF : va_nd isF = true) (hF : ∀ u, isF.map (fun i => (wr ++ W2 u)[i]?) = (W3 u).map some)
    (kk : ∀ (r : Int32) (u : S) (H1 : Heap) (locs1 : List Loc), post r u → va_P D vwCl (W3 u) H1 → va_D A (W3 u) → va_S A s.heap H1 locs1 → W p l e R s m args below meth c H1 locs1 (cells + mc) (slots + ms) Q (F0 m (pc + 3) ls (.int r :: rest))) : W p l e R s m args below meth c H locs cells slots Q (F0 m pc ls st0) := by
  have hFc := va_free (wc := Wc) hD hS hA isC hC
  refine va_calli hr hS (fun q _ h => hFc q h) hFc (fun r u t H1 locs1 ht _ hp hB _ hk1 hS1 => ?_)
  obtain ⟨hP1, hD1⟩ := hB
  rw [ht] at hP1
  obtain ⟨hP2, hD2⟩ := va_join hP hD isC isR hC hR hn hdis hk1 hFc hP1 hD1
  exact kk r u H1 locs1 hp (hP2.sub isF (tq_pick (hF u))) (hD2.sub isF hnF (hF u)) hS1
theorem tq_callV {S : Type} {post : S → Prop} {W2 : S → va_W} {W3 : S → va_W} {mc ms : Nat} {a : Array Value} {st0 : List Value} (hr : va_Run p l e R s m args below meth c H locs cells slots mc ms (F0 m pc ls st0) rest (va_Qv post (tq_B D (va_A Wc H.size) W2) (va_A Wc H.size) a) (va_A Wc H.size))
    (hP : va_P D vwCl ws H) (hD : va_D A ws) (hS : va_S A s.heap H locs) (hA : ∀ q : Nat, s.heap.size ≤ q → A q) (isC isR isF : List Nat) (hC : isC.map (fun i => ws[i]?) = Wc.map some) (hR : isR.map (fun i => ws[i]?) = wr.map some) (hn : va_nd isR = true) (hdis : ∀ i ∈ isR, i ∉ isC) (hnF : va_nd isF = true) (hF : ∀ u, isF.map (fun i => (wr ++ W2 u)[i]?) = (W3 u).map some)
    (kk : ∀ (u : S) (H1 : Heap) (locs1 : List Loc), post u → va_P D vwCl (W3 u) H1 → va_D A (W3 u) → va_S A s.heap H1 locs1 → W p l e R s m args below meth c H1 locs1 (cells + mc) (slots + ms) Q (F0 m (pc + 3) ls rest)) : W p l e R s m args below meth c H locs cells slots Q (F0 m pc ls st0) := by
  have hFc := va_free (wc := Wc) hD hS hA isC hC
  refine va_callv hr hS (fun q _ h => hFc q h) hFc (fun u t H1 locs1 ht _ hp hB _ hk1 hS1 => ?_)
  obtain ⟨hP1, hD1⟩ := hB
  rw [ht] at hP1
  obtain ⟨hP2, hD2⟩ := va_join hP hD isC isR hC hR hn hdis hk1 hFc hP1 hD1
  exact kk u H1 locs1 hp (hP2.sub isF (tq_pick (hF u))) (hD2.sub isF hnF (hF u)) hS1
/-- a new array of small numbers -/
theorem tq_newa (C : tq_C p s m meth c own cc nL rt) (hK : va_K D vwCl (tq_ty cy) s) (hP : va_P D vwCl ws H) (hD : va_D A ws) (hS : va_S A s.heap H locs) (hA : ∀ q : Nat, s.heap.size ≤ q → A q) {n : Nat} (hn : n < 1000) (hcells : cells + 1 ≤ R.cells) (hslots : slots + n ≤ R.slots) (hdg : decode cc pc = .ok (.newarray .int, 2))
    (kk : ∀ (q : Nat) (H1 : Heap), va_P D vwCl (ws ++ [(q, .inl (cy, n, .inl (fun _ => nI 0)))]) H1 → va_D A (ws ++ [(q, .inl (cy, n, .inl (fun _ => nI 0)))]) → va_S A s.heap H1 locs →
      W p l e R s m args below meth c H1 locs (cells + 1) (slots + n) Q (F0 m (pc + 2) ls (.ref q :: rest))) : W p l e R s m args below meth c H locs cells slots Q (F0 m pc ls (.int (nI n) :: rest)) := by
  refine va_newa (atype := .int) (ty := .int) (N' := n) (a0 := (n, .inl (fun _ => nI 0))) C.1 C.2.1 (C.2.2.2.2.2.2.use ac_int rfl) rfl hK hP hD hS hA (fun cA => ?_) (nI_pos (by omega)) (nI_clamp (by omega)) ?_ hcells hslots hdg ?_
  · simp [vp_cell, nI_0]
    rfl
  · show n * 4 ≤ 536870912
    omega
  · intro q cA H1 hK1 hP1 hD1 hS1
    have h1 : s.vm.findClass ("[" ++ FieldType.int.toString) = some cy := (hK.2 0 _ rfl).2
    have h2 : s.vm.findClass ("[" ++ FieldType.int.toString) = some cA := (hK1.2 1 _ rfl).2
    rw [h1] at h2
    cases h2
    exact kk q H1 hP1 hD1 hS1
end TR
end
section
theorem tq_inc1 (a : Nat) : nI a + Int32.ofInt 1 = nI (a + 1) := by
  rw [show Int32.ofInt 1 = nI 1 from by decide]
  exact nI_add a 1
theorem tq_inc3 (a : Nat) : nI a + Int32.ofInt 3 = nI (a + 3) := by
  rw [show Int32.ofInt 3 = nI 3 from by decide]
  exact nI_add a 3
theorem tq_dec {a : Nat} (h : 0 < a) : nI a + Int32.ofInt (-1) = nI (a - 1) := by
  obtain ⟨b, rfl⟩ : ∃ b, a = b + 1 := ⟨a - 1, by omega⟩
  rw [show Int32.ofInt (-1) = -1 from by decide]
  exact pk_m1 b
/-- the hash of a key -/
def hs (k : Nat) : Nat := k * 40503 % 2 ^ 16
/-- so many bits of x, in reverse -/
def rv (x : Nat) : Nat → Nat
  | 0 => 0
  | k + 1 => 2 * rv x k + x / 2 ^ k % 2 ^ 1
def isKey (x : Int32) : Prop := ∃ k : Nat, k < 65536 ∧ x = nI k
theorem tq_rng {x : Int32} {M : Nat} (hM : M < 2 ^ 31) (h0 : ¬ x < 0) (h1 : x ≤ nI M) : ∃ k : Nat, k ≤ M ∧ x = nI k := nI_of2 (nI_toInt hM) h0 h1
theorem tq_rngN {x : Int32} {M : Nat} (hM : M < 2 ^ 31) (h : x < 0 ∨ ¬ x ≤ nI M) : ¬ ∃ k : Nat, k ≤ M ∧ x = nI k := by
  rintro ⟨k, hk, rfl⟩
  rcases h with h | h
  · exact nI_pos (by omega) h
  · exact h (nI_le hk (by omega))
theorem hs_lt (k : Nat) : hs k < 65536 := Nat.mod_lt _ (by decide)
theorem p2_le {b c : Nat} (h : b ≤ c) : 2 ^ b ≤ 2 ^ c := Nat.pow_le_pow_right (by decide) h
theorem p2_pos (b : Nat) : 1 ≤ 2 ^ b := Nat.one_le_two_pow
theorem rv_lt (x : Nat) : ∀ k, rv x k < 2 ^ k
  | 0 => Nat.one_pos
  | k + 1 => by
    have h := rv_lt x k
    have h2 : x / 2 ^ k % 2 ^ 1 < 2 ^ 1 := Nat.mod_lt _ (by decide)
    rw [Nat.pow_succ]
    show 2 * rv x k + x / 2 ^ k % 2 ^ 1 < 2 ^ k * 2
    omega
end
section
theorem dX4_isRow_0 : decode cX4_isRow 0 = .ok (.iload_n 0, 1) := by decide +kernel
theorem dX4_isRow_1 : decode cX4_isRow 1 = .ok (.ifCond .lt 14, 3) := by decide +kernel
theorem dX4_isRow_4 : decode cX4_isRow 4 = .ok (.iload_n 0, 1) := by decide +kernel
theorem dX4_isRow_5 : decode cX4_isRow 5 = .ok (.sipush 256, 3) := by decide +kernel
theorem dX4_isRow_8 : decode cX4_isRow 8 = .ok (.if_icmp .ge 7, 3) := by decide +kernel
theorem dX4_isRow_11 : decode cX4_isRow 11 = .ok (.iconst 1, 1) := by decide +kernel
theorem dX4_isRow_12 : decode cX4_isRow 12 = .ok (.goto 4, 3) := by decide +kernel
theorem dX4_isRow_15 : decode cX4_isRow 15 = .ok (.iconst 0, 1) := by decide +kernel
theorem dX4_isRow_16 : decode cX4_isRow 16 = .ok (.ireturn, 1) := by decide +kernel
theorem dX4_isEntry_0 : decode cX4_isEntry 0 = .ok (.iload_n 0, 1) := by decide +kernel
theorem dX4_isEntry_1 : decode cX4_isEntry 1 = .ok (.ifCond .le 13, 3) := by decide +kernel
theorem dX4_isEntry_4 : decode cX4_isEntry 4 = .ok (.iload_n 0, 1) := by decide +kernel
theorem dX4_isEntry_5 : decode cX4_isEntry 5 = .ok (.bipush 120, 2) := by decide +kernel
theorem dX4_isEntry_7 : decode cX4_isEntry 7 = .ok (.if_icmp .gt 7, 3) := by decide +kernel
theorem dX4_isEntry_10 : decode cX4_isEntry 10 = .ok (.iconst 1, 1) := by decide +kernel
theorem dX4_isEntry_11 : decode cX4_isEntry 11 = .ok (.goto 4, 3) := by decide +kernel
theorem dX4_isEntry_14 : decode cX4_isEntry 14 = .ok (.iconst 0, 1) := by decide +kernel
theorem dX4_isEntry_15 : decode cX4_isEntry 15 = .ok (.ireturn, 1) := by decide +kernel
theorem dX4_lowBits_0 : decode cX4_lowBits 0 = .ok (.iload_n 0, 1) := by decide +kernel
theorem dX4_lowBits_1 : decode cX4_lowBits 1 = .ok (.iconst 1, 1) := by decide +kernel
theorem dX4_lowBits_2 : decode cX4_lowBits 2 = .ok (.iload_n 1, 1) := by decide +kernel
theorem dX4_lowBits_3 : decode cX4_lowBits 3 = .ok (.ishl, 1) := by decide +kernel
theorem dX4_lowBits_4 : decode cX4_lowBits 4 = .ok (.iconst 1, 1) := by decide +kernel
theorem dX4_lowBits_5 : decode cX4_lowBits 5 = .ok (.isub, 1) := by decide +kernel
theorem dX4_lowBits_6 : decode cX4_lowBits 6 = .ok (.iand, 1) := by decide +kernel
theorem dX4_lowBits_7 : decode cX4_lowBits 7 = .ok (.ireturn, 1) := by decide +kernel
theorem dX4_hash_0 : decode cX4_hash 0 = .ok (.iload_n 0, 1) := by decide +kernel
theorem dX4_hash_1 : decode cX4_hash 1 = .ok (.ldc 212, 2) := by decide +kernel
theorem dX4_hash_3 : decode cX4_hash 3 = .ok (.imul, 1) := by decide +kernel
theorem dX4_hash_4 : decode cX4_hash 4 = .ok (.bipush 16, 2) := by decide +kernel
theorem dX4_hash_6 : decode cX4_hash 6 = .ok (.invokestatic 162, 3) := by decide +kernel
theorem dX4_hash_9 : decode cX4_hash 9 = .ok (.ireturn, 1) := by decide +kernel
theorem dX4_bitAt_0 : decode cX4_bitAt 0 = .ok (.iload_n 0, 1) := by decide +kernel
theorem dX4_bitAt_1 : decode cX4_bitAt 1 = .ok (.iload_n 1, 1) := by decide +kernel
theorem dX4_bitAt_2 : decode cX4_bitAt 2 = .ok (.ishr, 1) := by decide +kernel
theorem dX4_bitAt_3 : decode cX4_bitAt 3 = .ok (.iconst 1, 1) := by decide +kernel
theorem dX4_bitAt_4 : decode cX4_bitAt 4 = .ok (.iand, 1) := by decide +kernel
theorem dX4_bitAt_5 : decode cX4_bitAt 5 = .ok (.ireturn, 1) := by decide +kernel
theorem dX4_reverseBits_0 : decode cX4_reverseBits 0 = .ok (.iconst 0, 1) := by decide +kernel
theorem dX4_reverseBits_1 : decode cX4_reverseBits 1 = .ok (.istore_n 2, 1) := by decide +kernel
theorem dX4_reverseBits_2 : decode cX4_reverseBits 2 = .ok (.iconst 0, 1) := by decide +kernel
theorem dX4_reverseBits_3 : decode cX4_reverseBits 3 = .ok (.istore_n 3, 1) := by decide +kernel
theorem dX4_reverseBits_4 : decode cX4_reverseBits 4 = .ok (.iload_n 3, 1) := by decide +kernel
theorem dX4_reverseBits_5 : decode cX4_reverseBits 5 = .ok (.iload_n 1, 1) := by decide +kernel
theorem dX4_reverseBits_6 : decode cX4_reverseBits 6 = .ok (.if_icmp .ge 19, 3) := by decide +kernel
theorem dX4_reverseBits_9 : decode cX4_reverseBits 9 = .ok (.iconst 2, 1) := by decide +kernel
theorem dX4_reverseBits_10 : decode cX4_reverseBits 10 = .ok (.iload_n 2, 1) := by decide +kernel
theorem dX4_reverseBits_11 : decode cX4_reverseBits 11 = .ok (.imul, 1) := by decide +kernel
theorem dX4_reverseBits_12 : decode cX4_reverseBits 12 = .ok (.iload_n 0, 1) := by decide +kernel
theorem dX4_reverseBits_13 : decode cX4_reverseBits 13 = .ok (.iload_n 3, 1) := by decide +kernel
theorem dX4_reverseBits_14 : decode cX4_reverseBits 14 = .ok (.invokestatic 213, 3) := by decide +kernel
theorem dX4_reverseBits_17 : decode cX4_reverseBits 17 = .ok (.iadd, 1) := by decide +kernel
theorem dX4_reverseBits_18 : decode cX4_reverseBits 18 = .ok (.istore_n 2, 1) := by decide +kernel
theorem dX4_reverseBits_19 : decode cX4_reverseBits 19 = .ok (.iinc 3 1, 3) := by decide +kernel
theorem dX4_reverseBits_22 : decode cX4_reverseBits 22 = .ok (.goto (-18), 3) := by decide +kernel
theorem dX4_reverseBits_25 : decode cX4_reverseBits 25 = .ok (.iload_n 2, 1) := by decide +kernel
theorem dX4_reverseBits_26 : decode cX4_reverseBits 26 = .ok (.ireturn, 1) := by decide +kernel
theorem dX4_checkRange_0 : decode cX4_checkRange 0 = .ok (.iload_n 0, 1) := by decide +kernel
theorem dX4_checkRange_1 : decode cX4_checkRange 1 = .ok (.iload_n 1, 1) := by decide +kernel
theorem dX4_checkRange_2 : decode cX4_checkRange 2 = .ok (.if_icmp .lt 8, 3) := by decide +kernel
theorem dX4_checkRange_5 : decode cX4_checkRange 5 = .ok (.iload_n 0, 1) := by decide +kernel
theorem dX4_checkRange_6 : decode cX4_checkRange 6 = .ok (.iload_n 2, 1) := by decide +kernel
theorem dX4_checkRange_7 : decode cX4_checkRange 7 = .ok (.if_icmp .le 13, 3) := by decide +kernel
theorem dX4_checkRange_10 : decode cX4_checkRange 10 = .ok (.new 202, 3) := by decide +kernel
theorem dX4_checkRange_13 : decode cX4_checkRange 13 = .ok (.dup, 1) := by decide +kernel
theorem dX4_checkRange_14 : decode cX4_checkRange 14 = .ok (.ldc 204, 2) := by decide +kernel
theorem dX4_checkRange_16 : decode cX4_checkRange 16 = .ok (.invokespecial 206, 3) := by decide +kernel
theorem dX4_checkRange_19 : decode cX4_checkRange 19 = .ok (.athrow, 1) := by decide +kernel
theorem dX4_checkRange_20 : decode cX4_checkRange 20 = .ok (.return_, 1) := by decide +kernel
theorem dX4_checkIndex_0 : decode cX4_checkIndex 0 = .ok (.iload_n 0, 1) := by decide +kernel
theorem dX4_checkIndex_1 : decode cX4_checkIndex 1 = .ok (.ifCond .lt 8, 3) := by decide +kernel
theorem dX4_checkIndex_4 : decode cX4_checkIndex 4 = .ok (.iload_n 0, 1) := by decide +kernel
theorem dX4_checkIndex_5 : decode cX4_checkIndex 5 = .ok (.iload_n 1, 1) := by decide +kernel
theorem dX4_checkIndex_6 : decode cX4_checkIndex 6 = .ok (.if_icmp .lt 13, 3) := by decide +kernel
theorem dX4_checkIndex_9 : decode cX4_checkIndex 9 = .ok (.new 207, 3) := by decide +kernel
theorem dX4_checkIndex_12 : decode cX4_checkIndex 12 = .ok (.dup, 1) := by decide +kernel
theorem dX4_checkIndex_13 : decode cX4_checkIndex 13 = .ok (.ldc 209, 2) := by decide +kernel
theorem dX4_checkIndex_15 : decode cX4_checkIndex 15 = .ok (.invokespecial 211, 3) := by decide +kernel
theorem dX4_checkIndex_18 : decode cX4_checkIndex 18 = .ok (.athrow, 1) := by decide +kernel
theorem dX4_checkIndex_19 : decode cX4_checkIndex 19 = .ok (.return_, 1) := by decide +kernel
theorem dX4_checkKey_0 : decode cX4_checkKey 0 = .ok (.iload_n 0, 1) := by decide +kernel
theorem dX4_checkKey_1 : decode cX4_checkKey 1 = .ok (.iconst 0, 1) := by decide +kernel
theorem dX4_checkKey_2 : decode cX4_checkKey 2 = .ok (.ldc 201, 2) := by decide +kernel
theorem dX4_checkKey_4 : decode cX4_checkKey 4 = .ok (.invokestatic 37, 3) := by decide +kernel
theorem dX4_checkKey_7 : decode cX4_checkKey 7 = .ok (.return_, 1) := by decide +kernel
set_option maxHeartbeats 4000000 in
set_option maxRecDepth 100000 in
theorem c_X4_isRow (l : Launch) (D : va_G) (cy : ClassId)  (row : Nat) (hrow : row < 256) : tq_F l yX4_isRow cX4_isRow 1 (some .boolean) 0 0 D cy [] [.int (nI (row))] (fun r => r = (nI (1))) := by
  refine tq_F.mk (by decide) (Nat.le_of_ble_eq_true rfl) ?_
  intro p e s m args below meth c C hP hK ls hl
  obtain ⟨hx, hb, hml, hown, hrt, hlk, hT⟩ := id C
  have hl : lv_has ls 1 [(0, .int (nI (row)))] := hl
  refine lv_iload_n hx hb dX4_isRow_0 rfl (lv_at hl 0 rfl) ?_
  refine tq_if_lt (tgt := 15) C (by omega) dX4_isRow_1 (by decide) ?_
  refine lv_iload_n hx hb dX4_isRow_4 rfl (lv_at hl 0 rfl) ?_
  refine lv_sipush (v := nI 256) hx hb dX4_isRow_5 (by decide) ?_
  refine tq_icmp_ge (tgt := 15) C (by omega) (by omega) dX4_isRow_8 (by decide) (fun h8 => ?_) (fun h8 => ?_)
  · omega
  · refine lv_iconst (v := nI 1) hx hb dX4_isRow_11 (by decide) ?_
    refine lv_goto (tgt := 16) hx hb dX4_isRow_12 (by decide) ?_
    exact tq_fret (v := (nI (1))) C (by decide) (rfl) dX4_isRow_16
set_option maxHeartbeats 4000000 in
set_option maxRecDepth 100000 in
theorem c_X4_isEntry (l : Launch) (D : va_G) (cy : ClassId)  (en : Nat) (h1 : 1 ≤ en) (h2 : en ≤ 120) : tq_F l yX4_isEntry cX4_isEntry 1 (some .boolean) 0 0 D cy [] [.int (nI (en))] (fun r => r = (nI (1))) := by
  refine tq_F.mk (by decide) (Nat.le_of_ble_eq_true rfl) ?_
  intro p e s m args below meth c C hP hK ls hl
  obtain ⟨hx, hb, hml, hown, hrt, hlk, hT⟩ := id C
  have hl : lv_has ls 1 [(0, .int (nI (en)))] := hl
  refine lv_iload_n hx hb dX4_isEntry_0 rfl (lv_at hl 0 rfl) ?_
  refine tq_if_le (tgt := 14) C (by omega) dX4_isEntry_1 (by decide) (fun h1 => ?_) (fun h1 => ?_)
  · omega
  · refine lv_iload_n hx hb dX4_isEntry_4 rfl (lv_at hl 0 rfl) ?_
    refine lv_bipush (v := nI 120) hx hb dX4_isEntry_5 (by decide) ?_
    refine tq_icmp_gt (tgt := 14) C (by omega) (by omega) dX4_isEntry_7 (by decide) (fun h7 => ?_) (fun h7 => ?_)
    · omega
    · refine lv_iconst (v := nI 1) hx hb dX4_isEntry_10 (by decide) ?_
      refine lv_goto (tgt := 15) hx hb dX4_isEntry_11 (by decide) ?_
      exact tq_fret (v := (nI (1))) C (by decide) (rfl) dX4_isEntry_15
set_option maxHeartbeats 4000000 in
set_option maxRecDepth 100000 in
theorem c_X4_isEntry_0 (l : Launch) (D : va_G) (cy : ClassId)  (en : Nat) (h0 : en = 0) : tq_F l yX4_isEntry cX4_isEntry 1 (some .boolean) 0 0 D cy [] [.int (nI (en))] (fun r => r = (nI (0))) := by
  refine tq_F.mk (by decide) (Nat.le_of_ble_eq_true rfl) ?_
  intro p e s m args below meth c C hP hK ls hl
  obtain ⟨hx, hb, hml, hown, hrt, hlk, hT⟩ := id C
  have hl : lv_has ls 1 [(0, .int (nI (en)))] := hl
  refine lv_iload_n hx hb dX4_isEntry_0 rfl (lv_at hl 0 rfl) ?_
  refine tq_if_le (tgt := 14) C (by omega) dX4_isEntry_1 (by decide) (fun h1 => ?_) (fun h1 => ?_)
  · refine lv_iconst (v := nI 0) hx hb dX4_isEntry_14 (by decide) ?_
    exact tq_fret (v := (nI (0))) C (by decide) (rfl) dX4_isEntry_15
  · omega
set_option maxHeartbeats 4000000 in
set_option maxRecDepth 100000 in
theorem c_X4_lowBits (l : Launch) (D : va_G) (cy : ClassId)  (x : Nat) (b : Nat) (hxb : x < 2 ^ 32) (hbb : b ≤ 16) : tq_F l yX4_lowBits cX4_lowBits 2 (some .int) 0 0 D cy [] [.int (nI (x)), .int (nI (b))] (fun r => r = (nI (x % 2 ^ b))) := by
  refine tq_F.mk (by decide) (Nat.le_of_ble_eq_true rfl) ?_
  intro p e s m args below meth c C hP hK ls hl
  obtain ⟨hx, hb, hml, hown, hrt, hlk, hT⟩ := id C
  have hl : lv_has ls 2 [(0, .int (nI (x))), (1, .int (nI (b)))] := hl
  refine lv_iload_n hx hb dX4_lowBits_0 rfl (lv_at hl 0 rfl) ?_
  refine lv_iconst (v := nI 1) hx hb dX4_lowBits_1 (by decide) ?_
  refine lv_iload_n hx hb dX4_lowBits_2 rfl (lv_at hl 1 rfl) ?_
  refine tq_ishl C (by omega) (by have := p2_le hbb; omega) dX4_lowBits_3 ?_
  refine tq_top (y := nI (2 ^ b)) (by rw [Nat.one_mul]) ?_
  refine lv_iconst (v := nI 1) hx hb dX4_lowBits_4 (by decide) ?_
  refine tq_isub C (p2_pos b) dX4_lowBits_5 ?_
  refine tq_iandM (b := b) C (by omega) rfl hxb dX4_lowBits_6 ?_
  exact tq_fret (v := (nI (x % 2 ^ b))) C rfl (rfl) dX4_lowBits_7
set_option maxHeartbeats 4000000 in
set_option maxRecDepth 100000 in
theorem c_X4_hash (l : Launch) (D : va_G) (cy : ClassId)  (key : Nat) (hkey : key < 65536) : tq_F l yX4_hash cX4_hash 1 (some .int) 1 21 D cy [] [.int (nI (key))] (fun r => r = (nI (hs key))) := by
  refine tq_F.mk (by decide) (Nat.le_of_ble_eq_true rfl) ?_
  intro p e s m args below meth c C hP hK ls hl
  obtain ⟨hx, hb, hml, hown, hrt, hlk, hT⟩ := id C
  have hl : lv_has ls 1 [(0, .int (nI (key)))] := hl
  refine lv_iload_n hx hb dX4_hash_0 rfl (lv_at hl 0 rfl) ?_
  refine lv_ldc (v := 40503) hx hb hown (hT.use kc_X4_212 rfl) dX4_hash_1 ?_
  refine tq_top (y := nI 40503) (by decide) ?_
  refine tq_imul C dX4_hash_3 ?_
  refine lv_bipush (v := nI 16) hx hb dX4_hash_4 (by decide) ?_
  refine tq_callF (va_runS C.fix (As := [.int (nI (key * 40503)), .int (nI (16))]) (rest := []) (c_X4_lowBits l D cy (key * 40503) 16 (by omega) (by decide)) (tq_cS (n := 2) C ml_X4_162 sm_X4_lowBits ini_X4 cd_X4_lowBits ⟨by decide, by decide, by decide +kernel⟩ ⟨Nat.le_of_ble_eq_true rfl, Nat.le_of_ble_eq_true rfl⟩) ⟨tq_Pf.blind, tq_preF C hK (hP.sub [] rfl)⟩ rfl rfl hl.1 rfl (lv_room (Nat.le_of_ble_eq_true rfl)) dX4_hash_6 ⟨Nat.le_of_ble_eq_true rfl, Nat.le_of_ble_eq_true rfl⟩) (fun r6 hr6 => ?_)
  obtain rfl := hr6
  exact tq_fret (v := (nI ((key * 40503) % 2 ^ 16))) C rfl (rfl) dX4_hash_9
set_option maxHeartbeats 4000000 in
set_option maxRecDepth 100000 in
theorem c_X4_bitAt (l : Launch) (D : va_G) (cy : ClassId)  (x : Nat) (b : Nat) (hxb : x < 2 ^ 31) (hbb : b < 32) : tq_F l yX4_bitAt cX4_bitAt 2 (some .int) 0 0 D cy [] [.int (nI (x)), .int (nI (b))] (fun r => r = (nI (x / 2 ^ b % 2 ^ 1))) := by
  refine tq_F.mk (by decide) (Nat.le_of_ble_eq_true rfl) ?_
  intro p e s m args below meth c C hP hK ls hl
  obtain ⟨hx, hb, hml, hown, hrt, hlk, hT⟩ := id C
  have hl : lv_has ls 2 [(0, .int (nI (x))), (1, .int (nI (b)))] := hl
  refine lv_iload_n hx hb dX4_bitAt_0 rfl (lv_at hl 0 rfl) ?_
  refine lv_iload_n hx hb dX4_bitAt_1 rfl (lv_at hl 1 rfl) ?_
  refine tq_ishr C (by omega) (by omega) dX4_bitAt_2 ?_
  refine lv_iconst (v := nI 1) hx hb dX4_bitAt_3 (by decide) ?_
  refine tq_iandM (b := 1) C (by omega) (by decide) (Nat.lt_of_le_of_lt (Nat.div_le_self _ _) (by omega)) dX4_bitAt_4 ?_
  exact tq_fret (v := (nI ((x / 2 ^ b) % 2 ^ 1))) C rfl (rfl) dX4_bitAt_5
set_option maxHeartbeats 4000000 in
set_option maxRecDepth 100000 in
theorem c_X4_reverseBits (l : Launch) (D : va_G) (cy : ClassId)  (x : Nat) (b : Nat) (hxb : x < 2 ^ 31) (hbb : b ≤ 16) : tq_F l yX4_reverseBits cX4_reverseBits 4 (some .int) 1 21 D cy [] [.int (nI (x)), .int (nI (b))] (fun r => r = (nI (rv x b))) := by
  refine tq_F.mk (by decide) (Nat.le_of_ble_eq_true rfl) ?_
  intro p e s m args below meth c C hP hK ls hl
  obtain ⟨hx, hb, hml, hown, hrt, hlk, hT⟩ := id C
  have hl : lv_has ls 4 [(0, .int (nI (x))), (1, .int (nI (b)))] := hl
  refine lv_iconst (v := nI 0) hx hb dX4_reverseBits_0 (by decide) ?_
  refine lv_istore_n (lv' := [(2, .int (nI (0))), (0, .int (nI (x))), (1, .int (nI (b)))]) hx hb dX4_reverseBits_1 rfl hl (by decide) rfl (fun ls hl => ?_)
  refine lv_iconst (v := nI 0) hx hb dX4_reverseBits_2 (by decide) ?_
  refine lv_istore_n (lv' := [(3, .int (nI (0))), (2, .int (nI (0))), (0, .int (nI (x))), (1, .int (nI (b)))]) hx hb dX4_reverseBits_3 rfl hl (by decide) rfl (fun ls hl => ?_)
  suffices hlp4 : ∀ (n4 : Nat) (i : Nat), b - i < n4 → (i ≤ b) → ∀ ls : Array Slot, lv_has ls 4 [(0, .int (nI (x))), (1, .int (nI (b))), (2, .int (nI (rv x i))), (3, .int (nI (i)))] → W p l e ({ frames := 1, cells := 0, slots := 0, locals := 21 } : Room) s m args below meth c s.heap [] 0 0 (MQ below (tq_Qf (fun r => r = (nI (rv x b)))) args s 0 0 (fun _ => False)) (F0 m 4 ls []) from
    hlp4 (b + 1) 0 (by omega) (by omega) _ (lv_sub hl [2, 3, 1, 0] rfl)
  intro n4
  induction n4 with
  | zero => intro i hf; exact absurd hf (Nat.not_lt_zero _)
  | succ n4 ih4 =>
    intro i hf4 hi ls hl
    refine lv_iload_n hx hb dX4_reverseBits_4 rfl (lv_at hl 3 rfl) ?_
    refine lv_iload_n hx hb dX4_reverseBits_5 rfl (lv_at hl 1 rfl) ?_
    refine tq_icmp_ge (tgt := 25) C (by omega) (by omega) dX4_reverseBits_6 (by decide) (fun h6 => ?_) (fun h6 => ?_)
    · refine lv_iload_n hx hb dX4_reverseBits_25 rfl (lv_at hl 2 rfl) ?_
      exact tq_fret (v := (nI (rv x i))) C rfl (by rw [show i = b from by omega]) dX4_reverseBits_26
    · refine lv_iconst (v := nI 2) hx hb dX4_reverseBits_9 (by decide) ?_
      refine lv_iload_n hx hb dX4_reverseBits_10 rfl (lv_at hl 2 rfl) ?_
      refine tq_imul C dX4_reverseBits_11 ?_
      refine lv_iload_n hx hb dX4_reverseBits_12 rfl (lv_at hl 0 rfl) ?_
      refine lv_iload_n hx hb dX4_reverseBits_13 rfl (lv_at hl 3 rfl) ?_
      refine tq_callF (va_runS C.fix (As := [.int (nI (x)), .int (nI (i))]) (rest := [.int (nI (2 * (rv x i)))]) (c_X4_bitAt l D cy x i (by omega) (by omega)) (tq_cS (n := 2) C ml_X4_213 sm_X4_bitAt ini_X4 cd_X4_bitAt ⟨by decide, by decide, by decide +kernel⟩ ⟨Nat.le_of_ble_eq_true rfl, Nat.le_of_ble_eq_true rfl⟩) ⟨tq_Pf.blind, tq_preF C hK (hP.sub [] rfl)⟩ rfl rfl hl.1 rfl (lv_room (Nat.le_of_ble_eq_true rfl)) dX4_reverseBits_14 ⟨Nat.le_of_ble_eq_true rfl, Nat.le_of_ble_eq_true rfl⟩) (fun r14 hr14 => ?_)
      obtain rfl := hr14
      refine tq_iadd C dX4_reverseBits_17 ?_
      refine lv_istore_n (lv' := [(2, .int (nI ((2 * (rv x i)) + (x / 2 ^ i % 2 ^ 1)))), (0, .int (nI (x))), (1, .int (nI (b))), (3, .int (nI (i)))]) hx hb dX4_reverseBits_18 rfl hl (by decide) rfl (fun ls hl => ?_)
      refine lv_iinc (v := (nI (i + 1))) (lv' := [(3, .int (nI (i + 1))), (2, .int (nI ((2 * (rv x i)) + (x / 2 ^ i % 2 ^ 1)))), (0, .int (nI (x))), (1, .int (nI (b)))]) hx hb dX4_reverseBits_19 hl (k := 3) rfl (tq_inc1 _) (by decide) rfl (fun ls hl => ?_)
      refine lv_goto (tgt := 4) hx hb dX4_reverseBits_22 (by decide) ?_
      exact ih4 (i + 1) (by omega) (by omega) _ (lv_sub hl [2, 3, 1, 0] rfl)
end
section
/-! chains: the entries of a row, each pointing to the next, the last one to z -/
def Cs (ne : Nat → Nat) : List Nat → Nat → Prop
  | [], _ => True
  | e :: L, z => ne e = L.headD z ∧ Cs ne L z
theorem Cs_congr {ne ne' : Nat → Nat} : ∀ {L : List Nat} {z : Nat}, (∀ e ∈ L, ne' e = ne e) → Cs ne L z → Cs ne' L z
  | [], _, _, _ => trivial
  | e :: L, z, h, hc => ⟨by rw [h e List.mem_cons_self]; exact hc.1, Cs_congr (fun e he => h e (List.mem_cons_of_mem _ he)) hc.2⟩
theorem Cs_append {ne : Nat → Nat} : ∀ {P Q : List Nat} {z : Nat}, Cs ne (P ++ Q) z ↔ Cs ne P (Q.headD z) ∧ Cs ne Q z
  | [], Q, z => ⟨fun h => ⟨trivial, h⟩, fun h => h.2⟩
  | [e], Q, z => by
    constructor
    · intro h; exact ⟨⟨h.1, trivial⟩, h.2⟩
    · intro h; exact ⟨h.1.1, h.2⟩
  | e :: f :: P, Q, z => by
    have ih := Cs_append (ne := ne) (P := f :: P) (Q := Q) (z := z)
    constructor
    · intro h; exact ⟨⟨h.1, (ih.mp h.2).1⟩, (ih.mp h.2).2⟩
    · intro h; exact ⟨h.1.1, ih.mpr ⟨h.1.2, h.2⟩⟩
theorem Cs_at {ne : Nat → Nat} : ∀ {L : List Nat} {z : Nat} (_ : Cs ne L z) (i : Nat), i < L.length → ne (L.getD i 0) = L.getD (i + 1) z
  | [], _, _, i, hi => absurd hi (Nat.not_lt_zero _)
  | e :: L, z, h, 0, _ => by
    have h1 := h.1
    cases L <;> simpa using h1
  | e :: L, z, h, i + 1, hi => by
    have := Cs_at h.2 i (by simpa using hi)
    simpa using this
def nx (ne : Nat → Nat) (e : Nat) : Nat := if e = 0 then 0 else ne e
/-- the rows of one table -/
def RR (fi la co ne : Nat → Nat) (rows : Nat → List Nat) : Prop :=
  (∀ r, r < 256 → co r = (rows r).length ∧ fi r = (rows r).headD 0 ∧ la r = (rows r).getLastD 0 ∧ Cs ne (rows r) 0 ∧ (∀ e ∈ rows r, 1 ≤ e ∧ e ≤ 120) ∧ (rows r).Nodup) ∧ ∀ r r', r < 256 → r' < 256 → r ≠ r' → ∀ e ∈ rows r, e ∉ rows r'
theorem nodup_len : ∀ (n : Nat) (L : List Nat), L.Nodup → (∀ e ∈ L, e < n) → L.length ≤ n
  | 0, [], _, _ => Nat.le_refl 0
  | 0, e :: L, _, h => absurd (h e List.mem_cons_self) (Nat.not_lt_zero _)
  | n + 1, L, hn, h => by
    by_cases hm : n ∈ L
    · have h1 := nodup_len n (L.erase n) (hn.erase n) (fun e he => by
        have h2 := h e (List.mem_of_mem_erase he)
        have h3 : e ≠ n := ((List.Nodup.mem_erase_iff hn).mp he).1
        omega)
      rw [List.length_erase_of_mem hm] at h1
      omega
    · have h1 := nodup_len n L hn (fun e he => by
        have h2 := h e he
        have h3 : e ≠ n := fun q => hm (q ▸ he)
        omega)
      omega
theorem RR.len {fi la co ne : Nat → Nat} {rows : Nat → List Nat} (h : RR fi la co ne rows) {r : Nat} (hr : r < 256) : (rows r).length ≤ 120 := by
  have h1 := h.1 r hr
  have h2 := nodup_len 121 (0 :: rows r) (List.nodup_cons.mpr ⟨fun h0 => by have := (h1.2.2.2.2.1 0 h0).1; omega, h1.2.2.2.2.2⟩) (fun e he => by
    rcases List.mem_cons.mp he with rfl | he
    · omega
    · have := (h1.2.2.2.2.1 e he).2; omega)
  simpa using h2
theorem RR.congr {fi la co ne : Nat → Nat} {rows rows' : Nat → List Nat} (h : RR fi la co ne rows) (e : ∀ r, r < 256 → rows' r = rows r) : RR fi la co ne rows' := by
  refine ⟨fun r hr => ?_, fun r r' hr hr' hne x hx => ?_⟩
  · rw [e r hr]; exact h.1 r hr
  · rw [e r hr] at hx; rw [e r' hr']; exact h.2 r r' hr hr' hne x hx
theorem getD_ge {L : List Nat} {i d : Nat} (h : L.length ≤ i) : L.getD i d = d := by simp [List.getD_eq_getElem?_getD, List.getElem?_eq_none h]
theorem RR.nxt {fi la co ne : Nat → Nat} {rows : Nat → List Nat} (h : RR fi la co ne rows) {r : Nat} (hr : r < 256) (i : Nat) : nx ne ((rows r).getD i 0) = (rows r).getD (i + 1) 0 := by
  have h1 := h.1 r hr
  unfold nx
  by_cases hi : i < (rows r).length
  · have h2 : (rows r).getD i 0 ∈ rows r := by
      rw [List.getD_eq_getElem?_getD, List.getElem?_eq_getElem hi]
      exact List.getElem_mem hi
    have h3 := (h1.2.2.2.2.1 _ h2).1
    rw [if_neg (by omega), Cs_at h1.2.2.2.1 i hi]
  · rw [getD_ge (by omega), getD_ge (by omega)]
    simp
theorem RR.get {fi la co ne : Nat → Nat} {rows : Nat → List Nat} (h : RR fi la co ne rows) {r : Nat} (hr : r < 256) (i : Nat) : (rows r).getD i 0 ≤ 120 ∧ (i < (rows r).length → 1 ≤ (rows r).getD i 0 ∧ (rows r).getD i 0 ∈ rows r) := by
  have h1 := h.1 r hr
  by_cases hi : i < (rows r).length
  · have h2 : (rows r).getD i 0 ∈ rows r := by
      rw [List.getD_eq_getElem?_getD, List.getElem?_eq_getElem hi]
      exact List.getElem_mem hi
    exact ⟨(h1.2.2.2.2.1 _ h2).2, fun _ => ⟨(h1.2.2.2.2.1 _ h2).1, h2⟩⟩
  · rw [getD_ge (by omega)]
    exact ⟨by omega, fun q => absurd q hi⟩
theorem up_s {α : Type} (f : Nat → α) (k : Nat) (v : α) : va_up f k v k = v := by simp [va_up]
theorem up_n {α : Type} (f : Nat → α) {k j : Nat} (v : α) (h : j ≠ k) : va_up f k v j = f j := by simp [va_up, h]
theorem getLastD_mem : ∀ {L : List Nat} {d : Nat}, L ≠ [] → L.getLastD d ∈ L := by
  intro L d h
  rcases List.eq_nil_or_concat L with rfl | ⟨P, x, rfl⟩
  · exact absurd rfl h
  · simp
/-- a row is emptied -/
theorem RR.empty {fi la co ne : Nat → Nat} {rows : Nat → List Nat} (h : RR fi la co ne rows) (row : Nat) : RR (va_up fi row 0) (va_up la row 0) (va_up co row 0) ne (va_up rows row []) := by
  refine ⟨fun r hr => ?_, fun r r' hr hr' hne x hx => ?_⟩
  · by_cases q : r = row
    · subst q
      simp [up_s, Cs]
    · rw [up_n _ _ q, up_n _ _ q, up_n _ _ q, up_n _ _ q]
      exact h.1 r hr
  · by_cases q : r = row
    · subst q
      simp [up_s] at hx
    · rw [up_n _ _ q] at hx
      by_cases q' : r' = row
      · subst q'
        simp [up_s]
      · rw [up_n _ _ q']
        exact h.2 r r' hr hr' hne x hx
/-- an entry comes behind a row's last one -/
theorem RR.append {fi la co ne : Nat → Nat} {rows : Nat → List Nat} (h : RR fi la co ne rows) {row en : Nat} (hr : row < 256) (h1 : 1 ≤ en) (h2 : en ≤ 120) (hf : ∀ r, r < 256 → en ∉ rows r) :
    (la row = 0 → RR (va_up fi row en) (va_up la row en) (va_up co row (co row + 1)) (va_up ne en 0) (va_up rows row (rows row ++ [en]))) ∧
    (la row ≠ 0 → 1 ≤ la row ∧ la row ≤ 120 ∧ la row ∈ rows row ∧ RR fi (va_up la row en) (va_up co row (co row + 1)) (va_up (va_up ne (la row) en) en 0) (va_up rows row (rows row ++ [en]))) := by
  obtain ⟨g1, g2, g3, g4, g5, g6⟩ := h.1 row hr
  have apart : ∀ r r', r < 256 → r' < 256 → r ≠ r' → ∀ e ∈ va_up rows row (rows row ++ [en]) r, e ∉ va_up rows row (rows row ++ [en]) r' := by
    intro r r' hr1 hr2 hne x hx
    by_cases q : r = row
    · rw [q, up_s] at hx
      have q' : r' ≠ row := fun z => hne (q.trans z.symm)
      rw [up_n _ _ q']
      rcases List.mem_append.mp hx with hx | hx
      · exact h.2 row r' hr hr2 (fun z => q' z.symm) x hx
      · rw [List.mem_singleton.mp hx]; exact hf r' hr2
    · rw [up_n _ _ q] at hx
      by_cases q' : r' = row
      · rw [q', up_s]
        intro hm
        rcases List.mem_append.mp hm with hm | hm
        · exact h.2 r row hr1 hr q x hx hm
        · rw [List.mem_singleton.mp hm] at hx; exact hf r hr1 hx
      · rw [up_n _ _ q']
        exact h.2 r r' hr1 hr2 hne x hx
  have nd : (rows row ++ [en]).Nodup := by
    rw [List.nodup_append]
    exact ⟨g6, by simp, fun a ha b hb => by rw [List.mem_singleton.mp hb]; exact fun q => hf row hr (q ▸ ha)⟩
  have rng : ∀ e ∈ rows row ++ [en], 1 ≤ e ∧ e ≤ 120 := fun e he => by
    rcases List.mem_append.mp he with he | he
    · exact g5 e he
    · rw [List.mem_singleton.mp he]; exact ⟨h1, h2⟩
  rcases List.eq_nil_or_concat (rows row) with hL | ⟨P, x, hL⟩
  · refine ⟨fun _ => ⟨fun r hr1 => ?_, apart⟩, fun hz => absurd (by rw [g3, hL]; rfl) hz⟩
    by_cases q : r = row
    · subst q
      rw [up_s, up_s, up_s, up_s]
      refine ⟨by rw [g1, hL]; rfl, by rw [hL]; rfl, by rw [hL]; rfl, by rw [hL]; exact ⟨up_s _ _ _, trivial⟩, rng, nd⟩
    · rw [up_n _ _ q, up_n _ _ q, up_n _ _ q, up_n _ _ q]
      obtain ⟨k1, k2, k3, k4, k5, k6⟩ := h.1 r hr1
      exact ⟨k1, k2, k3, Cs_congr (fun e he => up_n _ _ (fun z => hf r hr1 (z ▸ he))) k4, k5, k6⟩
  · have hx : la row = x := by rw [g3, hL]; simp
    have hxm : x ∈ rows row := by rw [hL]; simp
    refine ⟨fun hz => absurd (hx.symm.trans hz) (by have := (g5 x hxm).1; omega), fun _ => ⟨by rw [hx]; exact (g5 x hxm).1, by rw [hx]; exact (g5 x hxm).2, by rw [hx]; exact hxm, fun r hr1 => ?_, apart⟩⟩
    have hxe : x ≠ en := fun z => hf row hr (z ▸ hxm)
    rw [hx]
    by_cases q : r = row
    · subst q
      rw [up_s, up_s, up_s]
      refine ⟨by rw [g1]; simp, ?_, by simp, ?_, rng, nd⟩
      · rw [g2, hL]; cases P <;> simp
      · rw [Cs_append]
        refine ⟨?_, up_s _ _ _, trivial⟩
        rw [hL, List.concat_eq_append] at g4 g6 ⊢
        rw [Cs_append] at g4 ⊢
        refine ⟨Cs_congr (fun e he => ?_) g4.1, ?_, trivial⟩
        · have hex : e ≠ x := by
            rw [List.nodup_append] at g6
            exact g6.2.2 e he x (by simp)
          have hee : e ≠ en := fun z => hf r hr (by rw [hL, ← z]; simp [he])
          rw [up_n _ _ hee, up_n _ _ hex]
        · rw [up_n _ _ hxe, up_s]; rfl
    · rw [up_n _ _ q, up_n _ _ q, up_n _ _ q]
      obtain ⟨k1, k2, k3, k4, k5, k6⟩ := h.1 r hr1
      refine ⟨k1, k2, k3, Cs_congr (fun e he => ?_) k4, k5, k6⟩
      rw [up_n _ _ (fun z : e = en => hf r hr1 (z ▸ he)), up_n _ _ (fun z : e = x => h.2 r row hr1 hr q e he (z ▸ hxm))]

theorem getLastD_ne {P Q : List Nat} {d : Nat} (h : Q ≠ []) : (P ++ Q).getLastD d = Q.getLastD d := by
  rcases List.eq_nil_or_concat Q with z | ⟨Q', y, rfl⟩
  · exact absurd z h
  · rw [List.concat_eq_append, ← List.append_assoc]; simp
theorem filter_ne_self {L : List Nat} {en : Nat} (h : en ∉ L) : L.filter (· != en) = L := by
  rw [List.filter_eq_self]
  intro a ha
  simp only [bne_iff_ne, ne_eq]
  exact fun q => h (q ▸ ha)
/-- what entryBefore answers: P's last one -/
theorem RR.split {fi la co ne : Nat → Nat} {rows : Nat → List Nat} (h : RR fi la co ne rows) {row en : Nat} (hr : row < 256) (hm : en ∈ rows row) :
    ∃ P Q : List Nat, rows row = P ++ en :: Q ∧ en ∉ P ∧ en ∉ Q ∧ (rows row).filter (· != en) = P ++ Q := by
  obtain ⟨P, Q, hL⟩ := List.append_of_mem hm
  have h6 := (h.1 row hr).2.2.2.2.2
  rw [hL] at h6
  rw [List.nodup_append, List.nodup_cons] at h6
  have hP : en ∉ P := fun q => h6.2.2 en q en List.mem_cons_self rfl
  refine ⟨P, Q, hL, hP, h6.2.1.1, ?_⟩
  rw [hL, List.filter_append, filter_ne_self hP, List.filter_cons_of_neg (by simp), filter_ne_self h6.2.1.1]
/-- an entry is taken out of its row: pv is the one before it, 0 if none -/
theorem RR.unlink {fi la co ne : Nat → Nat} {rows : Nat → List Nat} (h : RR fi la co ne rows) {row en : Nat} (hr : row < 256) (P Q : List Nat) (hL : rows row = P ++ en :: Q) (hP : en ∉ P) (hQ : en ∉ Q) :
    (P = [] → RR (va_up fi row (ne en)) (if Q = [] then va_up la row (P.getLastD 0) else la) (va_up co row (co row - 1)) ne (fun r => (rows r).filter (· != en))) ∧
    (P ≠ [] → RR fi (if Q = [] then va_up la row (P.getLastD 0) else la) (va_up co row (co row - 1)) (va_up ne (P.getLastD 0) (ne en)) (fun r => (rows r).filter (· != en))) ∧ (la row = en ↔ Q = []) := by
  obtain ⟨g1, g2, g3, g4, g5, g6⟩ := h.1 row hr
  have hff : (rows row).filter (· != en) = P ++ Q := by
    rw [hL, List.filter_append, filter_ne_self hP, List.filter_cons_of_neg (by simp), filter_ne_self hQ]
  have hoth : ∀ r, r < 256 → r ≠ row → (rows r).filter (· != en) = rows r := fun r h1 h2 => filter_ne_self (fun q => h.2 row r hr h1 (fun z => h2 z.symm) en (by rw [hL]; simp) q)
  have apart : ∀ r r', r < 256 → r' < 256 → r ≠ r' → ∀ e ∈ (rows r).filter (· != en), e ∉ (rows r').filter (· != en) := fun r r' h1 h2 h3 e he hm =>
    h.2 r r' h1 h2 h3 e (List.mem_filter.mp he).1 (List.mem_filter.mp hm).1
  have h4 := g4
  rw [hL, Cs_append] at h4
  have hne : ne en = Q.headD 0 := h4.2.1
  have hlen : co row - 1 = (P ++ Q).length := by rw [g1, hL]; simp
  have nd : (P ++ Q).Nodup := by rw [← hff]; exact g6.filter _
  have rng : ∀ e ∈ P ++ Q, 1 ≤ e ∧ e ≤ 120 := fun e he => g5 e (by rw [← hff] at he; exact (List.mem_filter.mp he).1)
  have hlast : (if Q = [] then va_up la row (P.getLastD 0) else la) row = (P ++ Q).getLastD 0 := by
    by_cases q : Q = []
    · rw [if_pos q, up_s, q, List.append_nil]
    · rw [if_neg q, g3, hL]
      rw [getLastD_ne (List.cons_ne_nil _ _), getLastD_ne q, show en :: Q = [en] ++ Q from rfl, getLastD_ne q]
  have hlao : ∀ r, r ≠ row → (if Q = [] then va_up la row (P.getLastD 0) else la) r = la r := fun r h1 => by
    by_cases q : Q = []
    · rw [if_pos q, up_n _ _ h1]
    · rw [if_neg q]
  have hiff : la row = en ↔ Q = [] := by
    rw [g3, hL]
    constructor
    · intro z
      by_cases q : Q = []
      · exact q
      · exfalso
        rw [getLastD_ne (List.cons_ne_nil _ _), show en :: Q = [en] ++ Q from rfl, getLastD_ne q] at z
        exact hQ (by rw [← z]; exact getLastD_mem q)
    · rintro rfl; simp
  refine ⟨fun hp => ⟨fun r hr1 => ?_, apart⟩, fun hp => ⟨fun r hr1 => ?_, apart⟩, hiff⟩
  · by_cases q : r = row
    · subst q
      dsimp only
      rw [up_s, up_s, hff, hlast]
      refine ⟨hlen, by rw [hne, hp]; rfl, rfl, ?_, rng, nd⟩
      rw [hp]; exact h4.2.2
    · rw [up_n _ _ q, up_n _ _ q, hlao r q]
      show _ = ((rows r).filter (· != en)).length ∧ _ = ((rows r).filter (· != en)).headD 0 ∧ _ = ((rows r).filter (· != en)).getLastD 0 ∧ Cs ne ((rows r).filter (· != en)) 0 ∧ _ ∧ ((rows r).filter (· != en)).Nodup
      rw [hoth r hr1 q]
      refine ⟨(h.1 r hr1).1, (h.1 r hr1).2.1, (h.1 r hr1).2.2.1, (h.1 r hr1).2.2.2.1, fun e he => (h.1 r hr1).2.2.2.2.1 e (List.mem_filter.mp he).1, (h.1 r hr1).2.2.2.2.2⟩
  · rcases List.eq_nil_or_concat P with z | ⟨P', b, hb⟩
    · exact absurd z hp
    have hbl : P.getLastD 0 = b := by rw [hb]; simp
    have hbm : b ∈ rows row := by rw [hL, hb]; simp
    by_cases q : r = row
    · subst q
      dsimp only
      rw [up_s, hff, hlast]
      refine ⟨hlen, ?_, rfl, ?_, rng, nd⟩
      · rw [g2, hL]
        cases P with
        | nil => exact absurd rfl hp
        | cons x P2 => simp
      · rw [hbl, hb, List.concat_eq_append, Cs_append, Cs_append]
        rw [hb, List.concat_eq_append] at h4 nd
        rw [Cs_append] at h4
        rw [List.nodup_append, List.nodup_append] at nd
        refine ⟨⟨Cs_congr (fun e he => up_n _ _ (fun z : e = b => ?_)) h4.1.1, ?_, trivial⟩, Cs_congr (fun e he => up_n _ _ (fun z : e = b => ?_)) h4.2.2⟩
        · exact nd.1.2.2 e he b (by simp) z
        · rw [up_s, hne]; rfl
        · exact nd.2.2 b (by simp) e he z.symm
    · rw [up_n _ _ q, hlao r q]
      show _ = ((rows r).filter (· != en)).length ∧ _ = ((rows r).filter (· != en)).headD 0 ∧ _ = ((rows r).filter (· != en)).getLastD 0 ∧ Cs _ ((rows r).filter (· != en)) 0 ∧ _ ∧ ((rows r).filter (· != en)).Nodup
      rw [hoth r hr1 q, hbl]
      refine ⟨(h.1 r hr1).1, (h.1 r hr1).2.1, (h.1 r hr1).2.2.1, Cs_congr (fun e he => up_n _ _ (fun z : e = b => ?_)) (h.1 r hr1).2.2.2.1, fun e he => (h.1 r hr1).2.2.2.2.1 e (List.mem_filter.mp he).1, (h.1 r hr1).2.2.2.2.2⟩
      exact h.2 r row hr1 hr q e he (z ▸ hbm)
theorem headD_getD {L : List Nat} : L.headD 0 = L.getD 0 0 := by cases L <;> rfl
theorem RR.fst {fi la co ne : Nat → Nat} {rows : Nat → List Nat} (h : RR fi la co ne rows) {r : Nat} (hr : r < 256) : fi r = (rows r).getD 0 0 := by rw [(h.1 r hr).2.1, headD_getD]
theorem tq_neg1 {i : Nat} (h : i < 2 ^ 31) : ¬ nI i = -1 := fun q => nI_pos h (by rw [q]; decide)
theorem mem_getD {L : List Nat} {x : Nat} (h : x ∈ L) : ∃ j, j < L.length ∧ L.getD j 0 = x := by
  obtain ⟨j, hj, e⟩ := List.mem_iff_getElem.mp h
  exact ⟨j, hj, by rw [List.getD_eq_getElem?_getD, List.getElem?_eq_getElem hj]; exact e⟩
theorem getD_mem {L : List Nat} {i : Nat} (h : i < L.length) : L.getD i 0 ∈ L := by
  rw [List.getD_eq_getElem?_getD, List.getElem?_eq_getElem h]
  exact List.getElem_mem h
theorem getD_left {P Q : List Nat} {i : Nat} (h : i < P.length) : (P ++ Q).getD i 0 = P.getD i 0 := by
  rw [List.getD_eq_getElem?_getD, List.getD_eq_getElem?_getD, List.getElem?_append_left h]
theorem take_last {P : List Nat} {i : Nat} (h : i < P.length) : (P.take (i + 1)).getLastD 0 = P.getD i 0 := by
  have h1 : P.take (i + 1) = P.take i ++ [P.getD i 0] := by
    rw [List.getD_eq_getElem?_getD, List.getElem?_eq_getElem h]
    exact List.take_succ_eq_append_getElem h
  rw [h1]
  simp
end
section
def wK (cy : ClassId) (sa : Nat) (ka : Nat) (va : Nat) (oa : Nat) (key : Nat → Nat) (tk : Nat) (cp : Nat) : va_W := [
  (sa, .inr (3, [.ref (ka), .ref (va), .ref (oa), .int (nI (tk)), .int (nI (cp))])),
  (ka, .inl (cy, 121, .inl (fun j => nI (key j))))]
def wR (cy : ClassId) (rr : Nat) (rf : Nat) (rl : Nat) (rc : Nat) (rn : Nat) (sa : Nat) (ka : Nat) (va : Nat) (oa : Nat) (fi : Nat → Nat) (la : Nat → Nat) (co : Nat → Nat) (ne : Nat → Nat) (key : Nat → Nat) (tk : Nat) (cp : Nat) : va_W := [
  (rr, .inr (2, [.ref (sa), .ref (rf), .ref (rl), .ref (rc), .ref (rn)])),
  (rf, .inl (cy, 256, .inl (fun j => nI (fi j)))),
  (rl, .inl (cy, 256, .inl (fun j => nI (la j)))),
  (rc, .inl (cy, 256, .inl (fun j => nI (co j)))),
  (rn, .inl (cy, 121, .inl (fun j => nI (ne j)))),
  (sa, .inr (3, [.ref (ka), .ref (va), .ref (oa), .int (nI (tk)), .int (nI (cp))])),
  (ka, .inl (cy, 121, .inl (fun j => nI (key j))))]
def wC (cy : ClassId) (a : Nat → Nat) (key : Nat → Nat) (val : Nat → Nat) (ord : Nat → Nat) (tk : Nat) (cp : Nat) (efi : Nat → Nat) (ela : Nat → Nat) (eco : Nat → Nat) (ene : Nat → Nat) (ldp : Nat → Nat) (dp : Nat) (dbl : Int32) (hlv : Int32) (spl : Int32) (mrg : Int32) (lfi : Nat → Nat) (lla : Nat → Nat) (lco : Nat → Nat) (lne : Nat → Nat) (lev : Nat) (ptr : Nat) (llo : Nat) (lhi : Nat) (lsp : Int32) : va_W := [
  (a 0, .inr (4, [.ref (a 1), .ref (a 2), .ref (a 3)])),
  (a 1, .inr (3, [.ref (a 4), .ref (a 5), .ref (a 6), .int (nI (tk)), .int (nI (cp))])),
  (a 2, .inr (0, [.ref (a 1), .ref (a 7), .ref (a 8), .int (nI (dp)), .int (dbl), .int (hlv), .int (spl), .int (mrg)])),
  (a 3, .inr (1, [.ref (a 1), .ref (a 9), .int (nI (lev)), .int (nI (ptr)), .int (nI (llo)), .int (nI (lhi)), .int (lsp)])),
  (a 4, .inl (cy, 121, .inl (fun j => nI (key j)))),
  (a 5, .inl (cy, 121, .inl (fun j => nI (val j)))),
  (a 6, .inl (cy, 120, .inl (fun j => nI (ord j)))),
  (a 7, .inr (2, [.ref (a 1), .ref (a 10), .ref (a 11), .ref (a 12), .ref (a 13)])),
  (a 8, .inl (cy, 256, .inl (fun j => nI (ldp j)))),
  (a 9, .inr (2, [.ref (a 1), .ref (a 14), .ref (a 15), .ref (a 16), .ref (a 17)])),
  (a 10, .inl (cy, 256, .inl (fun j => nI (efi j)))),
  (a 11, .inl (cy, 256, .inl (fun j => nI (ela j)))),
  (a 12, .inl (cy, 256, .inl (fun j => nI (eco j)))),
  (a 13, .inl (cy, 121, .inl (fun j => nI (ene j)))),
  (a 14, .inl (cy, 256, .inl (fun j => nI (lfi j)))),
  (a 15, .inl (cy, 256, .inl (fun j => nI (lla j)))),
  (a 16, .inl (cy, 256, .inl (fun j => nI (lco j)))),
  (a 17, .inl (cy, 121, .inl (fun j => nI (lne j))))]
theorem gX0 : (u_ws RX0 TX0 8).all tq_g = true := by decide +kernel
theorem gX1 : (u_ws RX1 TX1 7).all tq_g = true := by decide +kernel
theorem gX2 : (u_ws RX2 TX2 5).all tq_g = true := by decide +kernel
theorem gX3 : (u_ws RX3 TX3 5).all tq_g = true := by decide +kernel
theorem gX4 : (u_ws RX4 TX4 3).all tq_g = true := by decide +kernel
theorem gX5 : (u_ws RX5 TX5 19).all tq_g = true := by decide +kernel
theorem dX3_keyOf_0 : decode cX3_keyOf 0 = .ok (.iload_n 1, 1) := by decide +kernel
theorem dX3_keyOf_1 : decode cX3_keyOf 1 = .ok (.invokestatic 28, 3) := by decide +kernel
theorem dX3_keyOf_4 : decode cX3_keyOf 4 = .ok (.ifCond .eq 12, 3) := by decide +kernel
theorem dX3_keyOf_7 : decode cX3_keyOf 7 = .ok (.aload_n 0, 1) := by decide +kernel
theorem dX3_keyOf_8 : decode cX3_keyOf 8 = .ok (.getfield 9, 3) := by decide +kernel
theorem dX3_keyOf_11 : decode cX3_keyOf 11 = .ok (.iload_n 1, 1) := by decide +kernel
theorem dX3_keyOf_12 : decode cX3_keyOf 12 = .ok (.iaload, 1) := by decide +kernel
theorem dX3_keyOf_13 : decode cX3_keyOf 13 = .ok (.goto 4, 3) := by decide +kernel
theorem dX3_keyOf_16 : decode cX3_keyOf 16 = .ok (.iconst 0, 1) := by decide +kernel
theorem dX3_keyOf_17 : decode cX3_keyOf 17 = .ok (.ireturn, 1) := by decide +kernel
theorem dX2_count_0 : decode cX2_count 0 = .ok (.iload_n 1, 1) := by decide +kernel
theorem dX2_count_1 : decode cX2_count 1 = .ok (.invokestatic 28, 3) := by decide +kernel
theorem dX2_count_4 : decode cX2_count 4 = .ok (.ifCond .eq 12, 3) := by decide +kernel
theorem dX2_count_7 : decode cX2_count 7 = .ok (.aload_n 0, 1) := by decide +kernel
theorem dX2_count_8 : decode cX2_count 8 = .ok (.getfield 18, 3) := by decide +kernel
theorem dX2_count_11 : decode cX2_count 11 = .ok (.iload_n 1, 1) := by decide +kernel
theorem dX2_count_12 : decode cX2_count 12 = .ok (.iaload, 1) := by decide +kernel
theorem dX2_count_13 : decode cX2_count 13 = .ok (.goto 4, 3) := by decide +kernel
theorem dX2_count_16 : decode cX2_count 16 = .ok (.iconst 0, 1) := by decide +kernel
theorem dX2_count_17 : decode cX2_count 17 = .ok (.ireturn, 1) := by decide +kernel
theorem dX2_firstOf_0 : decode cX2_firstOf 0 = .ok (.iload_n 1, 1) := by decide +kernel
theorem dX2_firstOf_1 : decode cX2_firstOf 1 = .ok (.invokestatic 28, 3) := by decide +kernel
theorem dX2_firstOf_4 : decode cX2_firstOf 4 = .ok (.ifCond .eq 12, 3) := by decide +kernel
theorem dX2_firstOf_7 : decode cX2_firstOf 7 = .ok (.aload_n 0, 1) := by decide +kernel
theorem dX2_firstOf_8 : decode cX2_firstOf 8 = .ok (.getfield 9, 3) := by decide +kernel
theorem dX2_firstOf_11 : decode cX2_firstOf 11 = .ok (.iload_n 1, 1) := by decide +kernel
theorem dX2_firstOf_12 : decode cX2_firstOf 12 = .ok (.iaload, 1) := by decide +kernel
theorem dX2_firstOf_13 : decode cX2_firstOf 13 = .ok (.goto 4, 3) := by decide +kernel
theorem dX2_firstOf_16 : decode cX2_firstOf 16 = .ok (.iconst 0, 1) := by decide +kernel
theorem dX2_firstOf_17 : decode cX2_firstOf 17 = .ok (.ireturn, 1) := by decide +kernel
theorem dX2_after_0 : decode cX2_after 0 = .ok (.iload_n 1, 1) := by decide +kernel
theorem dX2_after_1 : decode cX2_after 1 = .ok (.invokestatic 46, 3) := by decide +kernel
theorem dX2_after_4 : decode cX2_after 4 = .ok (.ifCond .eq 12, 3) := by decide +kernel
theorem dX2_after_7 : decode cX2_after 7 = .ok (.aload_n 0, 1) := by decide +kernel
theorem dX2_after_8 : decode cX2_after 8 = .ok (.getfield 21, 3) := by decide +kernel
theorem dX2_after_11 : decode cX2_after 11 = .ok (.iload_n 1, 1) := by decide +kernel
theorem dX2_after_12 : decode cX2_after 12 = .ok (.iaload, 1) := by decide +kernel
theorem dX2_after_13 : decode cX2_after 13 = .ok (.goto 4, 3) := by decide +kernel
theorem dX2_after_16 : decode cX2_after 16 = .ok (.iconst 0, 1) := by decide +kernel
theorem dX2_after_17 : decode cX2_after 17 = .ok (.ireturn, 1) := by decide +kernel
theorem dX2_entryAt_0 : decode cX2_entryAt 0 = .ok (.aload_n 0, 1) := by decide +kernel
theorem dX2_entryAt_1 : decode cX2_entryAt 1 = .ok (.iload_n 1, 1) := by decide +kernel
theorem dX2_entryAt_2 : decode cX2_entryAt 2 = .ok (.invokevirtual 32, 3) := by decide +kernel
theorem dX2_entryAt_5 : decode cX2_entryAt 5 = .ok (.istore_n 3, 1) := by decide +kernel
theorem dX2_entryAt_6 : decode cX2_entryAt 6 = .ok (.iconst 0, 1) := by decide +kernel
theorem dX2_entryAt_7 : decode cX2_entryAt 7 = .ok (.istore 4, 2) := by decide +kernel
theorem dX2_entryAt_9 : decode cX2_entryAt 9 = .ok (.iload 4, 2) := by decide +kernel
theorem dX2_entryAt_11 : decode cX2_entryAt 11 = .ok (.iload_n 2, 1) := by decide +kernel
theorem dX2_entryAt_12 : decode cX2_entryAt 12 = .ok (.if_icmp .ge 15, 3) := by decide +kernel
theorem dX2_entryAt_15 : decode cX2_entryAt 15 = .ok (.aload_n 0, 1) := by decide +kernel
theorem dX2_entryAt_16 : decode cX2_entryAt 16 = .ok (.iload_n 3, 1) := by decide +kernel
theorem dX2_entryAt_17 : decode cX2_entryAt 17 = .ok (.invokevirtual 36, 3) := by decide +kernel
theorem dX2_entryAt_20 : decode cX2_entryAt 20 = .ok (.istore_n 3, 1) := by decide +kernel
theorem dX2_entryAt_21 : decode cX2_entryAt 21 = .ok (.iinc 4 1, 3) := by decide +kernel
theorem dX2_entryAt_24 : decode cX2_entryAt 24 = .ok (.goto (-15), 3) := by decide +kernel
theorem dX2_entryAt_27 : decode cX2_entryAt 27 = .ok (.iload_n 3, 1) := by decide +kernel
theorem dX2_entryAt_28 : decode cX2_entryAt 28 = .ok (.ireturn, 1) := by decide +kernel
theorem dX2_placeOf_0 : decode cX2_placeOf 0 = .ok (.aload_n 0, 1) := by decide +kernel
theorem dX2_placeOf_1 : decode cX2_placeOf 1 = .ok (.iload_n 1, 1) := by decide +kernel
theorem dX2_placeOf_2 : decode cX2_placeOf 2 = .ok (.invokevirtual 56, 3) := by decide +kernel
theorem dX2_placeOf_5 : decode cX2_placeOf 5 = .ok (.istore_n 3, 1) := by decide +kernel
theorem dX2_placeOf_6 : decode cX2_placeOf 6 = .ok (.aload_n 0, 1) := by decide +kernel
theorem dX2_placeOf_7 : decode cX2_placeOf 7 = .ok (.iload_n 1, 1) := by decide +kernel
theorem dX2_placeOf_8 : decode cX2_placeOf 8 = .ok (.invokevirtual 32, 3) := by decide +kernel
theorem dX2_placeOf_11 : decode cX2_placeOf 11 = .ok (.istore 4, 2) := by decide +kernel
theorem dX2_placeOf_13 : decode cX2_placeOf 13 = .ok (.iconst 0, 1) := by decide +kernel
theorem dX2_placeOf_14 : decode cX2_placeOf 14 = .ok (.istore 5, 2) := by decide +kernel
theorem dX2_placeOf_16 : decode cX2_placeOf 16 = .ok (.iload 5, 2) := by decide +kernel
theorem dX2_placeOf_18 : decode cX2_placeOf 18 = .ok (.iload_n 3, 1) := by decide +kernel
theorem dX2_placeOf_19 : decode cX2_placeOf 19 = .ok (.if_icmp .ge 33, 3) := by decide +kernel
theorem dX2_placeOf_22 : decode cX2_placeOf 22 = .ok (.aload_n 0, 1) := by decide +kernel
theorem dX2_placeOf_23 : decode cX2_placeOf 23 = .ok (.getfield 24, 3) := by decide +kernel
theorem dX2_placeOf_26 : decode cX2_placeOf 26 = .ok (.iload 4, 2) := by decide +kernel
theorem dX2_placeOf_28 : decode cX2_placeOf 28 = .ok (.invokevirtual 63, 3) := by decide +kernel
theorem dX2_placeOf_31 : decode cX2_placeOf 31 = .ok (.iload_n 2, 1) := by decide +kernel
theorem dX2_placeOf_32 : decode cX2_placeOf 32 = .ok (.if_icmp .ne 6, 3) := by decide +kernel
theorem dX2_placeOf_35 : decode cX2_placeOf 35 = .ok (.iload 5, 2) := by decide +kernel
theorem dX2_placeOf_37 : decode cX2_placeOf 37 = .ok (.ireturn, 1) := by decide +kernel
theorem dX2_placeOf_38 : decode cX2_placeOf 38 = .ok (.aload_n 0, 1) := by decide +kernel
theorem dX2_placeOf_39 : decode cX2_placeOf 39 = .ok (.iload 4, 2) := by decide +kernel
theorem dX2_placeOf_41 : decode cX2_placeOf 41 = .ok (.invokevirtual 36, 3) := by decide +kernel
theorem dX2_placeOf_44 : decode cX2_placeOf 44 = .ok (.istore 4, 2) := by decide +kernel
theorem dX2_placeOf_46 : decode cX2_placeOf 46 = .ok (.iinc 5 1, 3) := by decide +kernel
theorem dX2_placeOf_49 : decode cX2_placeOf 49 = .ok (.goto (-33), 3) := by decide +kernel
theorem dX2_placeOf_52 : decode cX2_placeOf 52 = .ok (.iconst (-1), 1) := by decide +kernel
theorem dX2_placeOf_53 : decode cX2_placeOf 53 = .ok (.ireturn, 1) := by decide +kernel
theorem dX2_find_0 : decode cX2_find 0 = .ok (.aload_n 0, 1) := by decide +kernel
theorem dX2_find_1 : decode cX2_find 1 = .ok (.iload_n 1, 1) := by decide +kernel
theorem dX2_find_2 : decode cX2_find 2 = .ok (.iload_n 2, 1) := by decide +kernel
theorem dX2_find_3 : decode cX2_find 3 = .ok (.invokevirtual 39, 3) := by decide +kernel
theorem dX2_find_6 : decode cX2_find 6 = .ok (.istore_n 3, 1) := by decide +kernel
theorem dX2_find_7 : decode cX2_find 7 = .ok (.iload_n 3, 1) := by decide +kernel
theorem dX2_find_8 : decode cX2_find 8 = .ok (.iconst (-1), 1) := by decide +kernel
theorem dX2_find_9 : decode cX2_find 9 = .ok (.if_icmp .ne 7, 3) := by decide +kernel
theorem dX2_find_12 : decode cX2_find 12 = .ok (.iconst 0, 1) := by decide +kernel
theorem dX2_find_13 : decode cX2_find 13 = .ok (.goto 9, 3) := by decide +kernel
theorem dX2_find_16 : decode cX2_find 16 = .ok (.aload_n 0, 1) := by decide +kernel
theorem dX2_find_17 : decode cX2_find 17 = .ok (.iload_n 1, 1) := by decide +kernel
theorem dX2_find_18 : decode cX2_find 18 = .ok (.iload_n 3, 1) := by decide +kernel
theorem dX2_find_19 : decode cX2_find 19 = .ok (.invokevirtual 43, 3) := by decide +kernel
theorem dX2_find_22 : decode cX2_find 22 = .ok (.ireturn, 1) := by decide +kernel
theorem dX2_append_0 : decode cX2_append 0 = .ok (.iload_n 1, 1) := by decide +kernel
theorem dX2_append_1 : decode cX2_append 1 = .ok (.invokestatic 28, 3) := by decide +kernel
theorem dX2_append_4 : decode cX2_append 4 = .ok (.ifCond .eq 10, 3) := by decide +kernel
theorem dX2_append_7 : decode cX2_append 7 = .ok (.iload_n 2, 1) := by decide +kernel
theorem dX2_append_8 : decode cX2_append 8 = .ok (.invokestatic 46, 3) := by decide +kernel
theorem dX2_append_11 : decode cX2_append 11 = .ok (.ifCond .ne 4, 3) := by decide +kernel
theorem dX2_append_14 : decode cX2_append 14 = .ok (.return_, 1) := by decide +kernel
theorem dX2_append_15 : decode cX2_append 15 = .ok (.aload_n 0, 1) := by decide +kernel
theorem dX2_append_16 : decode cX2_append 16 = .ok (.getfield 15, 3) := by decide +kernel
theorem dX2_append_19 : decode cX2_append 19 = .ok (.iload_n 1, 1) := by decide +kernel
theorem dX2_append_20 : decode cX2_append 20 = .ok (.iaload, 1) := by decide +kernel
theorem dX2_append_21 : decode cX2_append 21 = .ok (.istore_n 3, 1) := by decide +kernel
theorem dX2_append_22 : decode cX2_append 22 = .ok (.iload_n 3, 1) := by decide +kernel
theorem dX2_append_23 : decode cX2_append 23 = .ok (.invokestatic 46, 3) := by decide +kernel
theorem dX2_append_26 : decode cX2_append 26 = .ok (.ifCond .eq 13, 3) := by decide +kernel
theorem dX2_append_29 : decode cX2_append 29 = .ok (.aload_n 0, 1) := by decide +kernel
theorem dX2_append_30 : decode cX2_append 30 = .ok (.getfield 21, 3) := by decide +kernel
theorem dX2_append_33 : decode cX2_append 33 = .ok (.iload_n 3, 1) := by decide +kernel
theorem dX2_append_34 : decode cX2_append 34 = .ok (.iload_n 2, 1) := by decide +kernel
theorem dX2_append_35 : decode cX2_append 35 = .ok (.iastore, 1) := by decide +kernel
theorem dX2_append_36 : decode cX2_append 36 = .ok (.goto 10, 3) := by decide +kernel
theorem dX2_append_39 : decode cX2_append 39 = .ok (.aload_n 0, 1) := by decide +kernel
theorem dX2_append_40 : decode cX2_append 40 = .ok (.getfield 9, 3) := by decide +kernel
theorem dX2_append_43 : decode cX2_append 43 = .ok (.iload_n 1, 1) := by decide +kernel
theorem dX2_append_44 : decode cX2_append 44 = .ok (.iload_n 2, 1) := by decide +kernel
theorem dX2_append_45 : decode cX2_append 45 = .ok (.iastore, 1) := by decide +kernel
theorem dX2_append_46 : decode cX2_append 46 = .ok (.aload_n 0, 1) := by decide +kernel
theorem dX2_append_47 : decode cX2_append 47 = .ok (.getfield 21, 3) := by decide +kernel
theorem dX2_append_50 : decode cX2_append 50 = .ok (.iload_n 2, 1) := by decide +kernel
theorem dX2_append_51 : decode cX2_append 51 = .ok (.iconst 0, 1) := by decide +kernel
theorem dX2_append_52 : decode cX2_append 52 = .ok (.iastore, 1) := by decide +kernel
theorem dX2_append_53 : decode cX2_append 53 = .ok (.aload_n 0, 1) := by decide +kernel
theorem dX2_append_54 : decode cX2_append 54 = .ok (.getfield 15, 3) := by decide +kernel
theorem dX2_append_57 : decode cX2_append 57 = .ok (.iload_n 1, 1) := by decide +kernel
theorem dX2_append_58 : decode cX2_append 58 = .ok (.iload_n 2, 1) := by decide +kernel
theorem dX2_append_59 : decode cX2_append 59 = .ok (.iastore, 1) := by decide +kernel
theorem dX2_append_60 : decode cX2_append 60 = .ok (.aload_n 0, 1) := by decide +kernel
theorem dX2_append_61 : decode cX2_append 61 = .ok (.getfield 18, 3) := by decide +kernel
theorem dX2_append_64 : decode cX2_append 64 = .ok (.iload_n 1, 1) := by decide +kernel
theorem dX2_append_65 : decode cX2_append 65 = .ok (.dup2, 1) := by decide +kernel
theorem dX2_append_66 : decode cX2_append 66 = .ok (.iaload, 1) := by decide +kernel
theorem dX2_append_67 : decode cX2_append 67 = .ok (.iconst 1, 1) := by decide +kernel
theorem dX2_append_68 : decode cX2_append 68 = .ok (.iadd, 1) := by decide +kernel
theorem dX2_append_69 : decode cX2_append 69 = .ok (.iastore, 1) := by decide +kernel
theorem dX2_append_70 : decode cX2_append 70 = .ok (.return_, 1) := by decide +kernel
theorem dX2_entryBefore_0 : decode cX2_entryBefore 0 = .ok (.iconst 0, 1) := by decide +kernel
theorem dX2_entryBefore_1 : decode cX2_entryBefore 1 = .ok (.istore_n 3, 1) := by decide +kernel
theorem dX2_entryBefore_2 : decode cX2_entryBefore 2 = .ok (.aload_n 0, 1) := by decide +kernel
theorem dX2_entryBefore_3 : decode cX2_entryBefore 3 = .ok (.iload_n 1, 1) := by decide +kernel
theorem dX2_entryBefore_4 : decode cX2_entryBefore 4 = .ok (.invokevirtual 32, 3) := by decide +kernel
theorem dX2_entryBefore_7 : decode cX2_entryBefore 7 = .ok (.istore 4, 2) := by decide +kernel
theorem dX2_entryBefore_9 : decode cX2_entryBefore 9 = .ok (.aload_n 0, 1) := by decide +kernel
theorem dX2_entryBefore_10 : decode cX2_entryBefore 10 = .ok (.iload_n 1, 1) := by decide +kernel
theorem dX2_entryBefore_11 : decode cX2_entryBefore 11 = .ok (.invokevirtual 56, 3) := by decide +kernel
theorem dX2_entryBefore_14 : decode cX2_entryBefore 14 = .ok (.istore 5, 2) := by decide +kernel
theorem dX2_entryBefore_16 : decode cX2_entryBefore 16 = .ok (.iconst 0, 1) := by decide +kernel
theorem dX2_entryBefore_17 : decode cX2_entryBefore 17 = .ok (.istore 6, 2) := by decide +kernel
theorem dX2_entryBefore_19 : decode cX2_entryBefore 19 = .ok (.iload 6, 2) := by decide +kernel
theorem dX2_entryBefore_21 : decode cX2_entryBefore 21 = .ok (.iload 5, 2) := by decide +kernel
theorem dX2_entryBefore_23 : decode cX2_entryBefore 23 = .ok (.if_icmp .ge 26, 3) := by decide +kernel
theorem dX2_entryBefore_26 : decode cX2_entryBefore 26 = .ok (.iload 4, 2) := by decide +kernel
theorem dX2_entryBefore_28 : decode cX2_entryBefore 28 = .ok (.iload_n 2, 1) := by decide +kernel
theorem dX2_entryBefore_29 : decode cX2_entryBefore 29 = .ok (.if_icmp .eq 20, 3) := by decide +kernel
theorem dX2_entryBefore_32 : decode cX2_entryBefore 32 = .ok (.iload 4, 2) := by decide +kernel
theorem dX2_entryBefore_34 : decode cX2_entryBefore 34 = .ok (.istore_n 3, 1) := by decide +kernel
theorem dX2_entryBefore_35 : decode cX2_entryBefore 35 = .ok (.aload_n 0, 1) := by decide +kernel
theorem dX2_entryBefore_36 : decode cX2_entryBefore 36 = .ok (.iload 4, 2) := by decide +kernel
theorem dX2_entryBefore_38 : decode cX2_entryBefore 38 = .ok (.invokevirtual 36, 3) := by decide +kernel
theorem dX2_entryBefore_41 : decode cX2_entryBefore 41 = .ok (.istore 4, 2) := by decide +kernel
theorem dX2_entryBefore_43 : decode cX2_entryBefore 43 = .ok (.iinc 6 1, 3) := by decide +kernel
theorem dX2_entryBefore_46 : decode cX2_entryBefore 46 = .ok (.goto (-27), 3) := by decide +kernel
theorem dX2_entryBefore_49 : decode cX2_entryBefore 49 = .ok (.iload_n 3, 1) := by decide +kernel
theorem dX2_entryBefore_50 : decode cX2_entryBefore 50 = .ok (.ireturn, 1) := by decide +kernel
theorem dX2_unlink_0 : decode cX2_unlink 0 = .ok (.iload_n 1, 1) := by decide +kernel
theorem dX2_unlink_1 : decode cX2_unlink 1 = .ok (.invokestatic 28, 3) := by decide +kernel
theorem dX2_unlink_4 : decode cX2_unlink 4 = .ok (.ifCond .eq 10, 3) := by decide +kernel
theorem dX2_unlink_7 : decode cX2_unlink 7 = .ok (.iload_n 2, 1) := by decide +kernel
theorem dX2_unlink_8 : decode cX2_unlink 8 = .ok (.invokestatic 46, 3) := by decide +kernel
theorem dX2_unlink_11 : decode cX2_unlink 11 = .ok (.ifCond .ne 4, 3) := by decide +kernel
theorem dX2_unlink_14 : decode cX2_unlink 14 = .ok (.return_, 1) := by decide +kernel
theorem dX2_unlink_15 : decode cX2_unlink 15 = .ok (.aload_n 0, 1) := by decide +kernel
theorem dX2_unlink_16 : decode cX2_unlink 16 = .ok (.iload_n 1, 1) := by decide +kernel
theorem dX2_unlink_17 : decode cX2_unlink 17 = .ok (.iload_n 2, 1) := by decide +kernel
theorem dX2_unlink_18 : decode cX2_unlink 18 = .ok (.invokevirtual 49, 3) := by decide +kernel
theorem dX2_unlink_21 : decode cX2_unlink 21 = .ok (.istore_n 3, 1) := by decide +kernel
theorem dX2_unlink_22 : decode cX2_unlink 22 = .ok (.iload_n 3, 1) := by decide +kernel
theorem dX2_unlink_23 : decode cX2_unlink 23 = .ok (.invokestatic 46, 3) := by decide +kernel
theorem dX2_unlink_26 : decode cX2_unlink 26 = .ok (.ifCond .eq 18, 3) := by decide +kernel
theorem dX2_unlink_29 : decode cX2_unlink 29 = .ok (.aload_n 0, 1) := by decide +kernel
theorem dX2_unlink_30 : decode cX2_unlink 30 = .ok (.getfield 21, 3) := by decide +kernel
theorem dX2_unlink_33 : decode cX2_unlink 33 = .ok (.iload_n 3, 1) := by decide +kernel
theorem dX2_unlink_34 : decode cX2_unlink 34 = .ok (.aload_n 0, 1) := by decide +kernel
theorem dX2_unlink_35 : decode cX2_unlink 35 = .ok (.getfield 21, 3) := by decide +kernel
theorem dX2_unlink_38 : decode cX2_unlink 38 = .ok (.iload_n 2, 1) := by decide +kernel
theorem dX2_unlink_39 : decode cX2_unlink 39 = .ok (.iaload, 1) := by decide +kernel
theorem dX2_unlink_40 : decode cX2_unlink 40 = .ok (.iastore, 1) := by decide +kernel
theorem dX2_unlink_41 : decode cX2_unlink 41 = .ok (.goto 15, 3) := by decide +kernel
theorem dX2_unlink_44 : decode cX2_unlink 44 = .ok (.aload_n 0, 1) := by decide +kernel
theorem dX2_unlink_45 : decode cX2_unlink 45 = .ok (.getfield 9, 3) := by decide +kernel
theorem dX2_unlink_48 : decode cX2_unlink 48 = .ok (.iload_n 1, 1) := by decide +kernel
theorem dX2_unlink_49 : decode cX2_unlink 49 = .ok (.aload_n 0, 1) := by decide +kernel
theorem dX2_unlink_50 : decode cX2_unlink 50 = .ok (.getfield 21, 3) := by decide +kernel
theorem dX2_unlink_53 : decode cX2_unlink 53 = .ok (.iload_n 2, 1) := by decide +kernel
theorem dX2_unlink_54 : decode cX2_unlink 54 = .ok (.iaload, 1) := by decide +kernel
theorem dX2_unlink_55 : decode cX2_unlink 55 = .ok (.iastore, 1) := by decide +kernel
theorem dX2_unlink_56 : decode cX2_unlink 56 = .ok (.aload_n 0, 1) := by decide +kernel
theorem dX2_unlink_57 : decode cX2_unlink 57 = .ok (.getfield 15, 3) := by decide +kernel
theorem dX2_unlink_60 : decode cX2_unlink 60 = .ok (.iload_n 1, 1) := by decide +kernel
theorem dX2_unlink_61 : decode cX2_unlink 61 = .ok (.iaload, 1) := by decide +kernel
theorem dX2_unlink_62 : decode cX2_unlink 62 = .ok (.iload_n 2, 1) := by decide +kernel
theorem dX2_unlink_63 : decode cX2_unlink 63 = .ok (.if_icmp .ne 10, 3) := by decide +kernel
theorem dX2_unlink_66 : decode cX2_unlink 66 = .ok (.aload_n 0, 1) := by decide +kernel
theorem dX2_unlink_67 : decode cX2_unlink 67 = .ok (.getfield 15, 3) := by decide +kernel
theorem dX2_unlink_70 : decode cX2_unlink 70 = .ok (.iload_n 1, 1) := by decide +kernel
theorem dX2_unlink_71 : decode cX2_unlink 71 = .ok (.iload_n 3, 1) := by decide +kernel
theorem dX2_unlink_72 : decode cX2_unlink 72 = .ok (.iastore, 1) := by decide +kernel
theorem dX2_unlink_73 : decode cX2_unlink 73 = .ok (.aload_n 0, 1) := by decide +kernel
theorem dX2_unlink_74 : decode cX2_unlink 74 = .ok (.getfield 18, 3) := by decide +kernel
theorem dX2_unlink_77 : decode cX2_unlink 77 = .ok (.iload_n 1, 1) := by decide +kernel
theorem dX2_unlink_78 : decode cX2_unlink 78 = .ok (.dup2, 1) := by decide +kernel
theorem dX2_unlink_79 : decode cX2_unlink 79 = .ok (.iaload, 1) := by decide +kernel
theorem dX2_unlink_80 : decode cX2_unlink 80 = .ok (.iconst 1, 1) := by decide +kernel
theorem dX2_unlink_81 : decode cX2_unlink 81 = .ok (.isub, 1) := by decide +kernel
theorem dX2_unlink_82 : decode cX2_unlink 82 = .ok (.iastore, 1) := by decide +kernel
theorem dX2_unlink_83 : decode cX2_unlink 83 = .ok (.return_, 1) := by decide +kernel
theorem dX2_empty_0 : decode cX2_empty 0 = .ok (.iload_n 1, 1) := by decide +kernel
theorem dX2_empty_1 : decode cX2_empty 1 = .ok (.invokestatic 28, 3) := by decide +kernel
theorem dX2_empty_4 : decode cX2_empty 4 = .ok (.ifCond .eq 24, 3) := by decide +kernel
theorem dX2_empty_7 : decode cX2_empty 7 = .ok (.aload_n 0, 1) := by decide +kernel
theorem dX2_empty_8 : decode cX2_empty 8 = .ok (.getfield 9, 3) := by decide +kernel
theorem dX2_empty_11 : decode cX2_empty 11 = .ok (.iload_n 1, 1) := by decide +kernel
theorem dX2_empty_12 : decode cX2_empty 12 = .ok (.iconst 0, 1) := by decide +kernel
theorem dX2_empty_13 : decode cX2_empty 13 = .ok (.iastore, 1) := by decide +kernel
theorem dX2_empty_14 : decode cX2_empty 14 = .ok (.aload_n 0, 1) := by decide +kernel
theorem dX2_empty_15 : decode cX2_empty 15 = .ok (.getfield 15, 3) := by decide +kernel
theorem dX2_empty_18 : decode cX2_empty 18 = .ok (.iload_n 1, 1) := by decide +kernel
theorem dX2_empty_19 : decode cX2_empty 19 = .ok (.iconst 0, 1) := by decide +kernel
theorem dX2_empty_20 : decode cX2_empty 20 = .ok (.iastore, 1) := by decide +kernel
theorem dX2_empty_21 : decode cX2_empty 21 = .ok (.aload_n 0, 1) := by decide +kernel
theorem dX2_empty_22 : decode cX2_empty 22 = .ok (.getfield 18, 3) := by decide +kernel
theorem dX2_empty_25 : decode cX2_empty 25 = .ok (.iload_n 1, 1) := by decide +kernel
theorem dX2_empty_26 : decode cX2_empty 26 = .ok (.iconst 0, 1) := by decide +kernel
theorem dX2_empty_27 : decode cX2_empty 27 = .ok (.iastore, 1) := by decide +kernel
theorem dX2_empty_28 : decode cX2_empty 28 = .ok (.return_, 1) := by decide +kernel
set_option maxHeartbeats 4000000 in
set_option maxRecDepth 100000 in
theorem c_X3_keyOf (l : Launch) (D : va_G) (cy : ClassId) (sa : Nat) (ka : Nat) (va : Nat) (oa : Nat) (key : Nat → Nat) (tk : Nat) (cp : Nat) (en : Nat) (h1 : 1 ≤ en) (h2 : en ≤ 120) : tq_F l yX3_keyOf cX3_keyOf 2 (some .int) 1 20 D cy (wK cy sa ka va oa key tk cp) [.ref (sa), .int (nI (en))] (fun r => r = (nI (key en))) := by
  refine tq_F.mk (by decide) (Nat.le_of_ble_eq_true rfl) ?_
  intro p e s m args below meth c C hP hK ls hl
  obtain ⟨hx, hb, hml, hown, hrt, hlk, hT⟩ := id C
  have hl : lv_has ls 2 [(0, .ref (sa)), (1, .int (nI (en)))] := hl
  refine lv_iload_n hx hb dX3_keyOf_0 rfl (lv_at hl 1 rfl) ?_
  refine tq_callF (va_runSN C.fix (As := [.int (nI (en))]) (rest := []) (c_X4_isEntry l D cy en h1 h2) (tq_cN (n := 1) C mn_X3_28 sm_X4_isEntry ini_X4 cd_X4_isEntry ⟨by decide, by decide, by decide +kernel⟩ ⟨Nat.le_of_ble_eq_true rfl, Nat.le_of_ble_eq_true rfl⟩) ⟨tq_Pf.blind, tq_preF C hK (hP.sub [] rfl)⟩ rfl rfl hl.1 rfl (lv_room (Nat.le_of_ble_eq_true rfl)) dX3_keyOf_1 ⟨Nat.le_of_ble_eq_true rfl, Nat.le_of_ble_eq_true rfl⟩) (fun r1 hr1 => ?_)
  obtain rfl := hr1
  refine lv_if_eq (tgt := 16) hx hb dX3_keyOf_4 (by decide) (fun h9 => absurd h9 (by decide)) (fun _ => ?_)
  refine lv_aload_n hx hb dX3_keyOf_7 rfl (lv_at hl 0 rfl) ?_
  refine tq_get (C0 := RX3) (T := TX3) (N := 5) (ci := 3) (k := 0) C gX3 inX3 rfl (by decide) rfl fl_X3_9 hK hP 0 rfl rfl dX3_keyOf_8 ?_
  refine lv_iload_n hx hb dX3_keyOf_11 rfl (lv_at hl 1 rfl) ?_
  refine tq_iald (n := 121) (i := en) (f := key) C hK hP 1 0 rfl rfl (by omega) (Nat.le_of_ble_eq_true rfl) dX3_keyOf_12 ?_
  refine lv_goto (tgt := 17) hx hb dX3_keyOf_13 (by decide) ?_
  exact tq_fret (v := (nI (key en))) C rfl (rfl) dX3_keyOf_17
set_option maxHeartbeats 4000000 in
set_option maxRecDepth 100000 in
theorem c_X2_count (l : Launch) (D : va_G) (cy : ClassId) (rr : Nat) (rf : Nat) (rl : Nat) (rc : Nat) (rn : Nat) (sa : Nat) (ka : Nat) (va : Nat) (oa : Nat) (fi : Nat → Nat) (la : Nat → Nat) (co : Nat → Nat) (ne : Nat → Nat) (key : Nat → Nat) (tk : Nat) (cp : Nat) (row : Nat) (hrow : row < 256) : tq_F l yX2_count cX2_count 2 (some .int) 1 20 D cy (wR cy rr rf rl rc rn sa ka va oa fi la co ne key tk cp) [.ref (rr), .int (nI (row))] (fun r => r = (nI (co row))) := by
  refine tq_F.mk (by decide) (Nat.le_of_ble_eq_true rfl) ?_
  intro p e s m args below meth c C hP hK ls hl
  obtain ⟨hx, hb, hml, hown, hrt, hlk, hT⟩ := id C
  have hl : lv_has ls 2 [(0, .ref (rr)), (1, .int (nI (row)))] := hl
  refine lv_iload_n hx hb dX2_count_0 rfl (lv_at hl 1 rfl) ?_
  refine tq_callF (va_runSN C.fix (As := [.int (nI (row))]) (rest := []) (c_X4_isRow l D cy row hrow) (tq_cN (n := 1) C mn_X2_28 sm_X4_isRow ini_X4 cd_X4_isRow ⟨by decide, by decide, by decide +kernel⟩ ⟨Nat.le_of_ble_eq_true rfl, Nat.le_of_ble_eq_true rfl⟩) ⟨tq_Pf.blind, tq_preF C hK (hP.sub [] rfl)⟩ rfl rfl hl.1 rfl (lv_room (Nat.le_of_ble_eq_true rfl)) dX2_count_1 ⟨Nat.le_of_ble_eq_true rfl, Nat.le_of_ble_eq_true rfl⟩) (fun r1 hr1 => ?_)
  obtain rfl := hr1
  refine lv_if_eq (tgt := 16) hx hb dX2_count_4 (by decide) (fun h9 => absurd h9 (by decide)) (fun _ => ?_)
  refine lv_aload_n hx hb dX2_count_7 rfl (lv_at hl 0 rfl) ?_
  refine tq_get (C0 := RX2) (T := TX2) (N := 5) (ci := 2) (k := 3) C gX2 inX2 rfl (by decide) rfl fl_X2_18 hK hP 0 rfl rfl dX2_count_8 ?_
  refine lv_iload_n hx hb dX2_count_11 rfl (lv_at hl 1 rfl) ?_
  refine tq_iald (n := 256) (i := row) (f := co) C hK hP 3 0 rfl rfl (by omega) (Nat.le_of_ble_eq_true rfl) dX2_count_12 ?_
  refine lv_goto (tgt := 17) hx hb dX2_count_13 (by decide) ?_
  exact tq_fret (v := (nI (co row))) C rfl (rfl) dX2_count_17
set_option maxHeartbeats 4000000 in
set_option maxRecDepth 100000 in
theorem c_X2_firstOf (l : Launch) (D : va_G) (cy : ClassId) (rr : Nat) (rf : Nat) (rl : Nat) (rc : Nat) (rn : Nat) (sa : Nat) (ka : Nat) (va : Nat) (oa : Nat) (fi : Nat → Nat) (la : Nat → Nat) (co : Nat → Nat) (ne : Nat → Nat) (key : Nat → Nat) (tk : Nat) (cp : Nat) (row : Nat) (hrow : row < 256) : tq_F l yX2_firstOf cX2_firstOf 2 (some .int) 1 20 D cy (wR cy rr rf rl rc rn sa ka va oa fi la co ne key tk cp) [.ref (rr), .int (nI (row))] (fun r => r = (nI (fi row))) := by
  refine tq_F.mk (by decide) (Nat.le_of_ble_eq_true rfl) ?_
  intro p e s m args below meth c C hP hK ls hl
  obtain ⟨hx, hb, hml, hown, hrt, hlk, hT⟩ := id C
  have hl : lv_has ls 2 [(0, .ref (rr)), (1, .int (nI (row)))] := hl
  refine lv_iload_n hx hb dX2_firstOf_0 rfl (lv_at hl 1 rfl) ?_
  refine tq_callF (va_runSN C.fix (As := [.int (nI (row))]) (rest := []) (c_X4_isRow l D cy row hrow) (tq_cN (n := 1) C mn_X2_28 sm_X4_isRow ini_X4 cd_X4_isRow ⟨by decide, by decide, by decide +kernel⟩ ⟨Nat.le_of_ble_eq_true rfl, Nat.le_of_ble_eq_true rfl⟩) ⟨tq_Pf.blind, tq_preF C hK (hP.sub [] rfl)⟩ rfl rfl hl.1 rfl (lv_room (Nat.le_of_ble_eq_true rfl)) dX2_firstOf_1 ⟨Nat.le_of_ble_eq_true rfl, Nat.le_of_ble_eq_true rfl⟩) (fun r1 hr1 => ?_)
  obtain rfl := hr1
  refine lv_if_eq (tgt := 16) hx hb dX2_firstOf_4 (by decide) (fun h9 => absurd h9 (by decide)) (fun _ => ?_)
  refine lv_aload_n hx hb dX2_firstOf_7 rfl (lv_at hl 0 rfl) ?_
  refine tq_get (C0 := RX2) (T := TX2) (N := 5) (ci := 2) (k := 1) C gX2 inX2 rfl (by decide) rfl fl_X2_9 hK hP 0 rfl rfl dX2_firstOf_8 ?_
  refine lv_iload_n hx hb dX2_firstOf_11 rfl (lv_at hl 1 rfl) ?_
  refine tq_iald (n := 256) (i := row) (f := fi) C hK hP 1 0 rfl rfl (by omega) (Nat.le_of_ble_eq_true rfl) dX2_firstOf_12 ?_
  refine lv_goto (tgt := 17) hx hb dX2_firstOf_13 (by decide) ?_
  exact tq_fret (v := (nI (fi row))) C rfl (rfl) dX2_firstOf_17
set_option maxHeartbeats 4000000 in
set_option maxRecDepth 100000 in
theorem c_X2_after (l : Launch) (D : va_G) (cy : ClassId) (rr : Nat) (rf : Nat) (rl : Nat) (rc : Nat) (rn : Nat) (sa : Nat) (ka : Nat) (va : Nat) (oa : Nat) (fi : Nat → Nat) (la : Nat → Nat) (co : Nat → Nat) (ne : Nat → Nat) (key : Nat → Nat) (tk : Nat) (cp : Nat) (en : Nat) (h2 : en ≤ 120) : tq_F l yX2_after cX2_after 2 (some .int) 1 20 D cy (wR cy rr rf rl rc rn sa ka va oa fi la co ne key tk cp) [.ref (rr), .int (nI (en))] (fun r => r = (nI (nx ne en))) := by
  refine tq_F.mk (by decide) (Nat.le_of_ble_eq_true rfl) ?_
  intro p e s m args below meth c C hP hK ls hl
  obtain ⟨hx, hb, hml, hown, hrt, hlk, hT⟩ := id C
  have hl : lv_has ls 2 [(0, .ref (rr)), (1, .int (nI (en)))] := hl
  rcases Nat.eq_zero_or_pos en with h0 | h0
  · refine lv_iload_n hx hb dX2_after_0 rfl (lv_at hl 1 rfl) ?_
    refine tq_callF (va_runSN C.fix (As := [.int (nI (en))]) (rest := []) (c_X4_isEntry_0 l D cy en h0) (tq_cN (n := 1) C mn_X2_46 sm_X4_isEntry ini_X4 cd_X4_isEntry ⟨by decide, by decide, by decide +kernel⟩ ⟨Nat.le_of_ble_eq_true rfl, Nat.le_of_ble_eq_true rfl⟩) ⟨tq_Pf.blind, tq_preF C hK (hP.sub [] rfl)⟩ rfl rfl hl.1 rfl (lv_room (Nat.le_of_ble_eq_true rfl)) dX2_after_1 ⟨Nat.le_of_ble_eq_true rfl, Nat.le_of_ble_eq_true rfl⟩) (fun r1 hr1 => ?_)
    obtain rfl := hr1
    refine lv_if_eq (tgt := 16) hx hb dX2_after_4 (by decide) (fun _ => ?_) (fun h9 => absurd (by decide : nI 0 = 0) h9)
    refine lv_iconst (v := nI 0) hx hb dX2_after_16 (by decide) ?_
    exact tq_fret (v := (nI (0))) C rfl (by rw [show nx ne en = 0 from if_pos h0]) dX2_after_17
  · refine lv_iload_n hx hb dX2_after_0 rfl (lv_at hl 1 rfl) ?_
    refine tq_callF (va_runSN C.fix (As := [.int (nI (en))]) (rest := []) (c_X4_isEntry l D cy en h0 h2) (tq_cN (n := 1) C mn_X2_46 sm_X4_isEntry ini_X4 cd_X4_isEntry ⟨by decide, by decide, by decide +kernel⟩ ⟨Nat.le_of_ble_eq_true rfl, Nat.le_of_ble_eq_true rfl⟩) ⟨tq_Pf.blind, tq_preF C hK (hP.sub [] rfl)⟩ rfl rfl hl.1 rfl (lv_room (Nat.le_of_ble_eq_true rfl)) dX2_after_1 ⟨Nat.le_of_ble_eq_true rfl, Nat.le_of_ble_eq_true rfl⟩) (fun r1 hr1 => ?_)
    obtain rfl := hr1
    refine lv_if_eq (tgt := 16) hx hb dX2_after_4 (by decide) (fun h9 => absurd h9 (by decide)) (fun _ => ?_)
    refine lv_aload_n hx hb dX2_after_7 rfl (lv_at hl 0 rfl) ?_
    refine tq_get (C0 := RX2) (T := TX2) (N := 5) (ci := 2) (k := 4) C gX2 inX2 rfl (by decide) rfl fl_X2_21 hK hP 0 rfl rfl dX2_after_8 ?_
    refine lv_iload_n hx hb dX2_after_11 rfl (lv_at hl 1 rfl) ?_
    refine tq_iald (n := 121) (i := en) (f := ne) C hK hP 4 0 rfl rfl (by omega) (Nat.le_of_ble_eq_true rfl) dX2_after_12 ?_
    refine lv_goto (tgt := 17) hx hb dX2_after_13 (by decide) ?_
    exact tq_fret (v := (nI (ne en))) C rfl (by rw [show nx ne en = ne en from if_neg (by omega)]) dX2_after_17
set_option maxHeartbeats 4000000 in
set_option maxRecDepth 100000 in
theorem c_X2_entryAt (l : Launch) (D : va_G) (cy : ClassId) (rr : Nat) (rf : Nat) (rl : Nat) (rc : Nat) (rn : Nat) (sa : Nat) (ka : Nat) (va : Nat) (oa : Nat) (fi : Nat → Nat) (la : Nat → Nat) (co : Nat → Nat) (ne : Nat → Nat) (key : Nat → Nat) (tk : Nat) (cp : Nat) (row : Nat) (pl : Nat) (rows : Nat → List Nat) (hRR : RR fi la co ne rows) (hrow : row < 256) (hpl : pl ≤ 120) : tq_F l yX2_entryAt cX2_entryAt 5 (some .int) 2 41 D cy (wR cy rr rf rl rc rn sa ka va oa fi la co ne key tk cp) [.ref (rr), .int (nI (row)), .int (nI (pl))] (fun r => r = (nI ((rows row).getD pl 0))) := by
  refine tq_F.mk (by decide) (Nat.le_of_ble_eq_true rfl) ?_
  intro p e s m args below meth c C hP hK ls hl
  obtain ⟨hx, hb, hml, hown, hrt, hlk, hT⟩ := id C
  have hl : lv_has ls 5 [(0, .ref (rr)), (1, .int (nI (row))), (2, .int (nI (pl)))] := hl
  have hlen := (hRR.1 row hrow).1
  have hle := hRR.len hrow
  refine lv_aload_n hx hb dX2_entryAt_0 rfl (lv_at hl 0 rfl) ?_
  refine lv_iload_n hx hb dX2_entryAt_1 rfl (lv_at hl 1 rfl) ?_
  refine tq_callF (va_runV C.fix (As := [.int (nI (row))]) (rest := []) (c_X2_firstOf l D cy rr rf rl rc rn sa ka va oa fi la co ne key tk cp row hrow) (tq_cV (n := 1) C ml_X2_32 im_X2_firstOf se_X2_firstOf ini_X2 cd_X2_firstOf ⟨by decide, by decide, by decide +kernel⟩ ⟨Nat.le_of_ble_eq_true rfl, Nat.le_of_ble_eq_true rfl⟩) ⟨tq_Pf.blind, va_recv hK hP (ci := 2) (q0 := 0) rfl rfl, tq_preF C hK hP⟩ rfl rfl hl.1 rfl (lv_room (Nat.le_of_ble_eq_true rfl)) dX2_entryAt_2 ⟨Nat.le_of_ble_eq_true rfl, Nat.le_of_ble_eq_true rfl⟩) (fun r2 hr2 => ?_)
  obtain rfl := hr2
  refine tq_top (y := nI ((rows row).getD 0 0)) (by rw [hRR.fst hrow]) ?_
  refine lv_istore_n (lv' := [(3, .int (nI ((rows row).getD 0 0))), (0, .ref (rr)), (1, .int (nI (row))), (2, .int (nI (pl)))]) hx hb dX2_entryAt_5 rfl hl (by decide) rfl (fun ls hl => ?_)
  refine lv_iconst (v := nI 0) hx hb dX2_entryAt_6 (by decide) ?_
  refine lv_istore (lv' := [(4, .int (nI (0))), (3, .int (nI ((rows row).getD 0 0))), (0, .ref (rr)), (1, .int (nI (row))), (2, .int (nI (pl)))]) hx hb dX2_entryAt_7 hl (by decide) rfl (fun ls hl => ?_)
  suffices hlp9 : ∀ (n9 : Nat) (i : Nat), pl - i < n9 → (i ≤ pl) → ∀ ls : Array Slot, lv_has ls 5 [(0, .ref (rr)), (1, .int (nI (row))), (2, .int (nI (pl))), (3, .int (nI ((rows row).getD i 0))), (4, .int (nI (i)))] → W p l e ({ frames := 2, cells := 0, slots := 0, locals := 41 } : Room) s m args below meth c s.heap [] 0 0 (MQ below (tq_Qf (fun r => r = (nI ((rows row).getD pl 0)))) args s 0 0 (fun _ => False)) (F0 m 9 ls []) from
    hlp9 (pl + 1) 0 (by omega) (by omega) _ (lv_sub hl [2, 3, 4, 1, 0] rfl)
  intro n9
  induction n9 with
  | zero => intro i hf; exact absurd hf (Nat.not_lt_zero _)
  | succ n9 ih9 =>
    intro i hf9 hi ls hl
    refine lv_iload hx hb dX2_entryAt_9 (lv_at hl 4 rfl) ?_
    refine lv_iload_n hx hb dX2_entryAt_11 rfl (lv_at hl 2 rfl) ?_
    refine tq_icmp_ge (tgt := 27) C (by omega) (by omega) dX2_entryAt_12 (by decide) (fun h12 => ?_) (fun h12 => ?_)
    · refine lv_iload_n hx hb dX2_entryAt_27 rfl (lv_at hl 3 rfl) ?_
      exact tq_fret (v := (nI ((rows row).getD i 0))) C rfl (by rw [show i = pl from by omega]) dX2_entryAt_28
    · refine lv_aload_n hx hb dX2_entryAt_15 rfl (lv_at hl 0 rfl) ?_
      refine lv_iload_n hx hb dX2_entryAt_16 rfl (lv_at hl 3 rfl) ?_
      refine tq_callF (va_runV C.fix (As := [.int (nI ((rows row).getD i 0))]) (rest := []) (c_X2_after l D cy rr rf rl rc rn sa ka va oa fi la co ne key tk cp ((rows row).getD i 0) ((hRR.get hrow i).1)) (tq_cV (n := 1) C ml_X2_36 im_X2_after se_X2_after ini_X2 cd_X2_after ⟨by decide, by decide, by decide +kernel⟩ ⟨Nat.le_of_ble_eq_true rfl, Nat.le_of_ble_eq_true rfl⟩) ⟨tq_Pf.blind, va_recv hK hP (ci := 2) (q0 := 0) rfl rfl, tq_preF C hK hP⟩ rfl rfl hl.1 rfl (lv_room (Nat.le_of_ble_eq_true rfl)) dX2_entryAt_17 ⟨Nat.le_of_ble_eq_true rfl, Nat.le_of_ble_eq_true rfl⟩) (fun r17 hr17 => ?_)
      obtain rfl := hr17
      refine tq_top (y := nI ((rows row).getD (i + 1) 0)) (by rw [hRR.nxt hrow]) ?_
      refine lv_istore_n (lv' := [(3, .int (nI ((rows row).getD (i + 1) 0))), (0, .ref (rr)), (1, .int (nI (row))), (2, .int (nI (pl))), (4, .int (nI (i)))]) hx hb dX2_entryAt_20 rfl hl (by decide) rfl (fun ls hl => ?_)
      refine lv_iinc (v := (nI (i + 1))) (lv' := [(4, .int (nI (i + 1))), (3, .int (nI ((rows row).getD (i + 1) 0))), (0, .ref (rr)), (1, .int (nI (row))), (2, .int (nI (pl)))]) hx hb dX2_entryAt_21 hl (k := 4) rfl (tq_inc1 _) (by decide) rfl (fun ls hl => ?_)
      refine lv_goto (tgt := 9) hx hb dX2_entryAt_24 (by decide) ?_
      exact ih9 (i + 1) (by omega) (by omega) _ (lv_sub hl [2, 3, 4, 1, 0] rfl)
set_option maxHeartbeats 4000000 in
set_option maxRecDepth 100000 in
theorem c_X2_placeOf (l : Launch) (D : va_G) (cy : ClassId) (rr : Nat) (rf : Nat) (rl : Nat) (rc : Nat) (rn : Nat) (sa : Nat) (ka : Nat) (va : Nat) (oa : Nat) (fi : Nat → Nat) (la : Nat → Nat) (co : Nat → Nat) (ne : Nat → Nat) (key : Nat → Nat) (tk : Nat) (cp : Nat) (row : Nat) (kx : Nat) (rows : Nat → List Nat) (hRR : RR fi la co ne rows) (hkey : ∀ e, 1 ≤ e → e ≤ 120 → key e < 65536) (hrow : row < 256) (hkx : kx < 65536) : tq_F l yX2_placeOf cX2_placeOf 6 (some .int) 2 41 D cy (wR cy rr rf rl rc rn sa ka va oa fi la co ne key tk cp) [.ref (rr), .int (nI (row)), .int (nI (kx))] (fun r => (∃ i, i < (rows row).length ∧ key ((rows row).getD i 0) = kx ∧ (∀ j, j < i → key ((rows row).getD j 0) ≠ kx) ∧ r = nI i) ∨ ((∀ j, j < (rows row).length → key ((rows row).getD j 0) ≠ kx) ∧ r = -1)) := by
  refine tq_F.mk (by decide) (Nat.le_of_ble_eq_true rfl) ?_
  intro p e s m args below meth c C hP hK ls hl
  obtain ⟨hx, hb, hml, hown, hrt, hlk, hT⟩ := id C
  have hl : lv_has ls 6 [(0, .ref (rr)), (1, .int (nI (row))), (2, .int (nI (kx)))] := hl
  have hlen := (hRR.1 row hrow).1
  have hle := hRR.len hrow
  refine lv_aload_n hx hb dX2_placeOf_0 rfl (lv_at hl 0 rfl) ?_
  refine lv_iload_n hx hb dX2_placeOf_1 rfl (lv_at hl 1 rfl) ?_
  refine tq_callF (va_runV C.fix (As := [.int (nI (row))]) (rest := []) (c_X2_count l D cy rr rf rl rc rn sa ka va oa fi la co ne key tk cp row hrow) (tq_cV (n := 1) C ml_X2_56 im_X2_count se_X2_count ini_X2 cd_X2_count ⟨by decide, by decide, by decide +kernel⟩ ⟨Nat.le_of_ble_eq_true rfl, Nat.le_of_ble_eq_true rfl⟩) ⟨tq_Pf.blind, va_recv hK hP (ci := 2) (q0 := 0) rfl rfl, tq_preF C hK hP⟩ rfl rfl hl.1 rfl (lv_room (Nat.le_of_ble_eq_true rfl)) dX2_placeOf_2 ⟨Nat.le_of_ble_eq_true rfl, Nat.le_of_ble_eq_true rfl⟩) (fun r2 hr2 => ?_)
  obtain rfl := hr2
  refine lv_istore_n (lv' := [(3, .int (nI (co row))), (0, .ref (rr)), (1, .int (nI (row))), (2, .int (nI (kx)))]) hx hb dX2_placeOf_5 rfl hl (by decide) rfl (fun ls hl => ?_)
  refine lv_aload_n hx hb dX2_placeOf_6 rfl (lv_at hl 1 rfl) ?_
  refine lv_iload_n hx hb dX2_placeOf_7 rfl (lv_at hl 2 rfl) ?_
  refine tq_callF (va_runV C.fix (As := [.int (nI (row))]) (rest := []) (c_X2_firstOf l D cy rr rf rl rc rn sa ka va oa fi la co ne key tk cp row hrow) (tq_cV (n := 1) C ml_X2_32 im_X2_firstOf se_X2_firstOf ini_X2 cd_X2_firstOf ⟨by decide, by decide, by decide +kernel⟩ ⟨Nat.le_of_ble_eq_true rfl, Nat.le_of_ble_eq_true rfl⟩) ⟨tq_Pf.blind, va_recv hK hP (ci := 2) (q0 := 0) rfl rfl, tq_preF C hK hP⟩ rfl rfl hl.1 rfl (lv_room (Nat.le_of_ble_eq_true rfl)) dX2_placeOf_8 ⟨Nat.le_of_ble_eq_true rfl, Nat.le_of_ble_eq_true rfl⟩) (fun r8 hr8 => ?_)
  obtain rfl := hr8
  refine tq_top (y := nI ((rows row).getD 0 0)) (by rw [hRR.fst hrow]) ?_
  refine lv_istore (lv' := [(4, .int (nI ((rows row).getD 0 0))), (3, .int (nI (co row))), (0, .ref (rr)), (1, .int (nI (row))), (2, .int (nI (kx)))]) hx hb dX2_placeOf_11 hl (by decide) rfl (fun ls hl => ?_)
  refine lv_iconst (v := nI 0) hx hb dX2_placeOf_13 (by decide) ?_
  refine lv_istore (lv' := [(5, .int (nI (0))), (4, .int (nI ((rows row).getD 0 0))), (3, .int (nI (co row))), (0, .ref (rr)), (1, .int (nI (row))), (2, .int (nI (kx)))]) hx hb dX2_placeOf_14 hl (by decide) rfl (fun ls hl => ?_)
  suffices hlp16 : ∀ (n16 : Nat) (i : Nat), (rows row).length - i < n16 → (i ≤ (rows row).length) → (∀ j, j < i → key ((rows row).getD j 0) ≠ kx) → ∀ ls : Array Slot, lv_has ls 6 [(0, .ref (rr)), (1, .int (nI (row))), (2, .int (nI (kx))), (3, .int (nI (co row))), (4, .int (nI ((rows row).getD i 0))), (5, .int (nI (i)))] → W p l e ({ frames := 2, cells := 0, slots := 0, locals := 41 } : Room) s m args below meth c s.heap [] 0 0 (MQ below (tq_Qf (fun r => (∃ i, i < (rows row).length ∧ key ((rows row).getD i 0) = kx ∧ (∀ j, j < i → key ((rows row).getD j 0) ≠ kx) ∧ r = nI i) ∨ ((∀ j, j < (rows row).length → key ((rows row).getD j 0) ≠ kx) ∧ r = -1))) args s 0 0 (fun _ => False)) (F0 m 16 ls []) from
    hlp16 ((rows row).length + 1) 0 (by omega) (by omega) (fun j hj => absurd hj (Nat.not_lt_zero _)) _ (lv_sub hl [3, 4, 5, 2, 1, 0] rfl)
  intro n16
  induction n16 with
  | zero => intro i hf; exact absurd hf (Nat.not_lt_zero _)
  | succ n16 ih16 =>
    intro i hf16 hi hmin ls hl
    refine lv_iload hx hb dX2_placeOf_16 (lv_at hl 5 rfl) ?_
    refine lv_iload_n hx hb dX2_placeOf_18 rfl (lv_at hl 3 rfl) ?_
    refine tq_icmp_ge (tgt := 52) C (by omega) (by omega) dX2_placeOf_19 (by decide) (fun h19 => ?_) (fun h19 => ?_)
    · refine lv_iconst (v := (-1)) hx hb dX2_placeOf_52 (by decide) ?_
      exact tq_fret (v := ((-1))) C rfl (Or.inr ⟨fun j hj => hmin j (by omega), rfl⟩) dX2_placeOf_53
    · have hi2 : i < (rows row).length := by omega
      have hg := hRR.get hrow i
      have hk9 := hkey _ (hg.2 hi2).1 hg.1
      refine lv_aload_n hx hb dX2_placeOf_22 rfl (lv_at hl 0 rfl) ?_
      refine tq_get (C0 := RX2) (T := TX2) (N := 5) (ci := 2) (k := 0) C gX2 inX2 rfl (by decide) rfl fl_X2_24 hK hP 0 rfl rfl dX2_placeOf_23 ?_
      refine lv_iload hx hb dX2_placeOf_26 (lv_at hl 4 rfl) ?_
      refine tq_callF (va_runV C.fix (As := [.int (nI ((rows row).getD i 0))]) (rest := []) (c_X3_keyOf l D cy sa ka va oa key tk cp ((rows row).getD i 0) ((hg.2 hi2).1) hg.1) (tq_cV (n := 1) C ml_X2_63 im_X3_keyOf se_X3_keyOf ini_X3 cd_X3_keyOf ⟨by decide, by decide, by decide +kernel⟩ ⟨Nat.le_of_ble_eq_true rfl, Nat.le_of_ble_eq_true rfl⟩) ⟨tq_Pf.blind, va_recv hK hP (ci := 3) (q0 := 5) rfl rfl, tq_preF C hK (hP.sub [5, 6] rfl)⟩ rfl rfl hl.1 rfl (lv_room (Nat.le_of_ble_eq_true rfl)) dX2_placeOf_28 ⟨Nat.le_of_ble_eq_true rfl, Nat.le_of_ble_eq_true rfl⟩) (fun r28 hr28 => ?_)
      obtain rfl := hr28
      refine lv_iload_n hx hb dX2_placeOf_31 rfl (lv_at hl 2 rfl) ?_
      refine tq_icmp_ne (tgt := 38) C (by omega) (by omega) dX2_placeOf_32 (by decide) (fun h32 => ?_) (fun h32 => ?_)
      · refine lv_aload_n hx hb dX2_placeOf_38 rfl (lv_at hl 0 rfl) ?_
        refine lv_iload hx hb dX2_placeOf_39 (lv_at hl 4 rfl) ?_
        refine tq_callF (va_runV C.fix (As := [.int (nI ((rows row).getD i 0))]) (rest := []) (c_X2_after l D cy rr rf rl rc rn sa ka va oa fi la co ne key tk cp ((rows row).getD i 0) hg.1) (tq_cV (n := 1) C ml_X2_36 im_X2_after se_X2_after ini_X2 cd_X2_after ⟨by decide, by decide, by decide +kernel⟩ ⟨Nat.le_of_ble_eq_true rfl, Nat.le_of_ble_eq_true rfl⟩) ⟨tq_Pf.blind, va_recv hK hP (ci := 2) (q0 := 0) rfl rfl, tq_preF C hK hP⟩ rfl rfl hl.1 rfl (lv_room (Nat.le_of_ble_eq_true rfl)) dX2_placeOf_41 ⟨Nat.le_of_ble_eq_true rfl, Nat.le_of_ble_eq_true rfl⟩) (fun r41 hr41 => ?_)
        obtain rfl := hr41
        refine tq_top (y := nI ((rows row).getD (i + 1) 0)) (by rw [hRR.nxt hrow]) ?_
        refine lv_istore (lv' := [(4, .int (nI ((rows row).getD (i + 1) 0))), (0, .ref (rr)), (1, .int (nI (row))), (2, .int (nI (kx))), (3, .int (nI (co row))), (5, .int (nI (i)))]) hx hb dX2_placeOf_44 hl (by decide) rfl (fun ls hl => ?_)
        refine lv_iinc (v := (nI (i + 1))) (lv' := [(5, .int (nI (i + 1))), (4, .int (nI ((rows row).getD (i + 1) 0))), (0, .ref (rr)), (1, .int (nI (row))), (2, .int (nI (kx))), (3, .int (nI (co row)))]) hx hb dX2_placeOf_46 hl (k := 5) rfl (tq_inc1 _) (by decide) rfl (fun ls hl => ?_)
        refine lv_goto (tgt := 16) hx hb dX2_placeOf_49 (by decide) ?_
        exact ih16 (i + 1) (by omega) (by omega) (fun j hj => (Nat.lt_or_eq_of_le (Nat.le_of_lt_succ hj)).elim (hmin j) (fun q => by rw [q]; exact h32)) _ (lv_sub hl [2, 3, 4, 5, 1, 0] rfl)
      · refine lv_iload hx hb dX2_placeOf_35 (lv_at hl 5 rfl) ?_
        exact tq_fret (v := (nI (i))) C rfl (Or.inl ⟨i, hi2, h32, hmin, rfl⟩) dX2_placeOf_37
set_option maxHeartbeats 4000000 in
set_option maxRecDepth 100000 in
theorem c_X2_find (l : Launch) (D : va_G) (cy : ClassId) (rr : Nat) (rf : Nat) (rl : Nat) (rc : Nat) (rn : Nat) (sa : Nat) (ka : Nat) (va : Nat) (oa : Nat) (fi : Nat → Nat) (la : Nat → Nat) (co : Nat → Nat) (ne : Nat → Nat) (key : Nat → Nat) (tk : Nat) (cp : Nat) (row : Nat) (kx : Nat) (rows : Nat → List Nat) (hRR : RR fi la co ne rows) (hkey : ∀ e, 1 ≤ e → e ≤ 120 → key e < 65536) (hrow : row < 256) (hkx : kx < 65536) : tq_F l yX2_find cX2_find 4 (some .int) 3 66 D cy (wR cy rr rf rl rc rn sa ka va oa fi la co ne key tk cp) [.ref (rr), .int (nI (row)), .int (nI (kx))] (fun r => (∃ en, en ∈ rows row ∧ key en = kx ∧ r = nI en) ∨ ((∀ en, en ∈ rows row → key en ≠ kx) ∧ r = nI 0)) := by
  refine tq_F.mk (by decide) (Nat.le_of_ble_eq_true rfl) ?_
  intro p e s m args below meth c C hP hK ls hl
  obtain ⟨hx, hb, hml, hown, hrt, hlk, hT⟩ := id C
  have hl : lv_has ls 4 [(0, .ref (rr)), (1, .int (nI (row))), (2, .int (nI (kx)))] := hl
  have hlen := (hRR.1 row hrow).1
  have hle := hRR.len hrow
  refine lv_aload_n hx hb dX2_find_0 rfl (lv_at hl 0 rfl) ?_
  refine lv_iload_n hx hb dX2_find_1 rfl (lv_at hl 1 rfl) ?_
  refine lv_iload_n hx hb dX2_find_2 rfl (lv_at hl 2 rfl) ?_
  refine tq_callF (va_runV C.fix (As := [.int (nI (row)), .int (nI (kx))]) (rest := []) (c_X2_placeOf l D cy rr rf rl rc rn sa ka va oa fi la co ne key tk cp row kx rows hRR hkey hrow hkx) (tq_cV (n := 2) C ml_X2_39 im_X2_placeOf se_X2_placeOf ini_X2 cd_X2_placeOf ⟨by decide, by decide, by decide +kernel⟩ ⟨Nat.le_of_ble_eq_true rfl, Nat.le_of_ble_eq_true rfl⟩) ⟨tq_Pf.blind, va_recv hK hP (ci := 2) (q0 := 0) rfl rfl, tq_preF C hK hP⟩ rfl rfl hl.1 rfl (lv_room (Nat.le_of_ble_eq_true rfl)) dX2_find_3 ⟨Nat.le_of_ble_eq_true rfl, Nat.le_of_ble_eq_true rfl⟩) (fun r3 hr3 => ?_)
  rcases hr3 with ⟨i, hi, hki, hmin, rfl⟩ | ⟨hno, rfl⟩
  · refine lv_istore_n (lv' := [(3, .int (nI (i))), (0, .ref (rr)), (1, .int (nI (row))), (2, .int (nI (kx)))]) hx hb dX2_find_6 rfl hl (by decide) rfl (fun ls hl => ?_)
    refine lv_iload_n hx hb dX2_find_7 rfl (lv_at hl 0 rfl) ?_
    refine lv_iconst (v := (-1)) hx hb dX2_find_8 (by decide) ?_
    refine lv_icmp_ne (tgt := 16) hx hb dX2_find_9 (by decide) (fun h9 => ?_) (fun h9 => ?_)
    · refine lv_aload_n hx hb dX2_find_16 rfl (lv_at hl 1 rfl) ?_
      refine lv_iload_n hx hb dX2_find_17 rfl (lv_at hl 2 rfl) ?_
      refine lv_iload_n hx hb dX2_find_18 rfl (lv_at hl 0 rfl) ?_
      refine tq_callF (va_runV C.fix (As := [.int (nI (row)), .int (nI (i))]) (rest := []) (c_X2_entryAt l D cy rr rf rl rc rn sa ka va oa fi la co ne key tk cp row i rows hRR hrow (by omega)) (tq_cV (n := 2) C ml_X2_43 im_X2_entryAt se_X2_entryAt ini_X2 cd_X2_entryAt ⟨by decide, by decide, by decide +kernel⟩ ⟨Nat.le_of_ble_eq_true rfl, Nat.le_of_ble_eq_true rfl⟩) ⟨tq_Pf.blind, va_recv hK hP (ci := 2) (q0 := 0) rfl rfl, tq_preF C hK hP⟩ rfl rfl hl.1 rfl (lv_room (Nat.le_of_ble_eq_true rfl)) dX2_find_19 ⟨Nat.le_of_ble_eq_true rfl, Nat.le_of_ble_eq_true rfl⟩) (fun r19 hr19 => ?_)
      obtain rfl := hr19
      exact tq_fret (v := (nI ((rows row).getD i 0))) C rfl (Or.inl ⟨_, ((hRR.get hrow i).2 hi).2, hki, rfl⟩) dX2_find_22
    · exact absurd h9 (tq_neg1 (by omega))
  · refine lv_istore_n (lv' := [(3, .int (-1)), (0, .ref (rr)), (1, .int (nI (row))), (2, .int (nI (kx)))]) hx hb dX2_find_6 rfl hl (by decide) rfl (fun ls hl => ?_)
    refine lv_iload_n hx hb dX2_find_7 rfl (lv_at hl 0 rfl) ?_
    refine lv_iconst (v := (-1)) hx hb dX2_find_8 (by decide) ?_
    refine lv_icmp_ne (tgt := 16) hx hb dX2_find_9 (by decide) (fun h9 => ?_) (fun h9 => ?_)
    · exact absurd rfl h9
    · refine lv_iconst (v := nI 0) hx hb dX2_find_12 (by decide) ?_
      refine lv_goto (tgt := 22) hx hb dX2_find_13 (by decide) ?_
      exact tq_fret (v := (nI (0))) C rfl (Or.inr ⟨fun en hen => (mem_getD hen).elim fun j hj => hj.2 ▸ hno j hj.1, rfl⟩) dX2_find_22
set_option maxHeartbeats 4000000 in
set_option maxRecDepth 100000 in
theorem c_X2_append (l : Launch) (D : va_G) (cy : ClassId) (rr : Nat) (rf : Nat) (rl : Nat) (rc : Nat) (rn : Nat) (sa : Nat) (ka : Nat) (va : Nat) (oa : Nat) (fi : Nat → Nat) (la : Nat → Nat) (co : Nat → Nat) (ne : Nat → Nat) (key : Nat → Nat) (tk : Nat) (cp : Nat) (row : Nat) (en : Nat) (rows : Nat → List Nat) (hRR : RR fi la co ne rows) (hrow : row < 256) (h1 : 1 ≤ en) (h2 : en ≤ 120) (hf : ∀ r, r < 256 → en ∉ rows r) : tq_V (S := (Nat → Nat) × (Nat → Nat) × (Nat → Nat) × (Nat → Nat)) l yX2_append cX2_append 4 1 20 0 0 D cy (wR cy rr rf rl rc rn sa ka va oa fi la co ne key tk cp) [.ref (rr), .int (nI (row)), .int (nI (en))] (fun u => RR u.1 u.2.1 u.2.2.1 u.2.2.2 (va_up rows row (rows row ++ [en])) ∧ ∀ x, x ∉ rows row → x ≠ en → u.2.2.2 x = ne x) (fun u => (wR cy rr rf rl rc rn sa ka va oa u.1 u.2.1 u.2.2.1 u.2.2.2 key tk cp)) := by
  refine tq_V.mk (by decide) (Nat.le_of_ble_eq_true rfl) ?_
  intro p e s m args below meth c A C hin hP hK hD hS hA ls hl
  obtain ⟨hx, hb, hml, hown, hrt, hlk, hT⟩ := id C
  have hl : lv_has ls 4 [(0, .ref (rr)), (1, .int (nI (row))), (2, .int (nI (en)))] := hl
  refine lv_iload_n hx hb dX2_append_0 rfl (lv_at hl 1 rfl) ?_
  refine tq_callF (va_runSN C.fix (As := [.int (nI (row))]) (rest := []) (c_X4_isRow l D cy row hrow) (tq_cN (n := 1) C mn_X2_28 sm_X4_isRow ini_X4 cd_X4_isRow ⟨by decide, by decide, by decide +kernel⟩ ⟨Nat.le_of_ble_eq_true rfl, Nat.le_of_ble_eq_true rfl⟩) ⟨tq_Pf.blind, tq_preF C hK (hP.sub [] rfl)⟩ rfl rfl hl.1 rfl (lv_room (Nat.le_of_ble_eq_true rfl)) dX2_append_1 ⟨Nat.le_of_ble_eq_true rfl, Nat.le_of_ble_eq_true rfl⟩) (fun r1 hr1 => ?_)
  obtain rfl := hr1
  refine lv_if_eq (tgt := 14) hx hb dX2_append_4 (by decide) (fun h9 => absurd h9 (by decide)) (fun _ => ?_)
  refine lv_iload_n hx hb dX2_append_7 rfl (lv_at hl 2 rfl) ?_
  refine tq_callF (va_runSN C.fix (As := [.int (nI (en))]) (rest := []) (c_X4_isEntry l D cy en h1 h2) (tq_cN (n := 1) C mn_X2_46 sm_X4_isEntry ini_X4 cd_X4_isEntry ⟨by decide, by decide, by decide +kernel⟩ ⟨Nat.le_of_ble_eq_true rfl, Nat.le_of_ble_eq_true rfl⟩) ⟨tq_Pf.blind, tq_preF C hK (hP.sub [] rfl)⟩ rfl rfl hl.1 rfl (lv_room (Nat.le_of_ble_eq_true rfl)) dX2_append_8 ⟨Nat.le_of_ble_eq_true rfl, Nat.le_of_ble_eq_true rfl⟩) (fun r8 hr8 => ?_)
  obtain rfl := hr8
  refine lv_if_ne (tgt := 15) hx hb dX2_append_11 (by decide) (fun _ => ?_) (fun h9 => absurd h9 (by decide))
  refine lv_aload_n hx hb dX2_append_15 rfl (lv_at hl 0 rfl) ?_
  refine tq_get (C0 := RX2) (T := TX2) (N := 5) (ci := 2) (k := 2) C gX2 inX2 rfl (by decide) rfl fl_X2_15 hK hP 0 rfl rfl dX2_append_16 ?_
  refine lv_iload_n hx hb dX2_append_19 rfl (lv_at hl 1 rfl) ?_
  refine tq_iald (n := 256) (i := row) (f := la) C hK hP 2 0 rfl rfl (by omega) (Nat.le_of_ble_eq_true rfl) dX2_append_20 ?_
  refine lv_istore_n (lv' := [(3, .int (nI (la row))), (0, .ref (rr)), (1, .int (nI (row))), (2, .int (nI (en)))]) hx hb dX2_append_21 rfl hl (by decide) rfl (fun ls hl => ?_)
  have hap := hRR.append hrow h1 h2 hf
  rcases Nat.eq_zero_or_pos (la row) with hla | hla
  · refine lv_iload_n hx hb dX2_append_22 rfl (lv_at hl 0 rfl) ?_
    refine tq_callF (va_runSN C.fix (As := [.int (nI (la row))]) (rest := []) (c_X4_isEntry_0 l D cy (la row) hla) (tq_cN (n := 1) C mn_X2_46 sm_X4_isEntry ini_X4 cd_X4_isEntry ⟨by decide, by decide, by decide +kernel⟩ ⟨Nat.le_of_ble_eq_true rfl, Nat.le_of_ble_eq_true rfl⟩) ⟨tq_Pf.blind, tq_preF C hK (hP.sub [] rfl)⟩ rfl rfl hl.1 rfl (lv_room (Nat.le_of_ble_eq_true rfl)) dX2_append_23 ⟨Nat.le_of_ble_eq_true rfl, Nat.le_of_ble_eq_true rfl⟩) (fun r23 hr23 => ?_)
    obtain rfl := hr23
    refine lv_if_eq (tgt := 39) hx hb dX2_append_26 (by decide) (fun _ => ?_) (fun h9 => absurd (by decide : nI 0 = 0) h9)
    refine lv_aload_n hx hb dX2_append_39 rfl (lv_at hl 1 rfl) ?_
    refine tq_get (C0 := RX2) (T := TX2) (N := 5) (ci := 2) (k := 1) C gX2 inX2 rfl (by decide) rfl fl_X2_9 hK hP 0 rfl rfl dX2_append_40 ?_
    refine lv_iload_n hx hb dX2_append_43 rfl (lv_at hl 2 rfl) ?_
    refine lv_iload_n hx hb dX2_append_44 rfl (lv_at hl 3 rfl) ?_
    refine tq_iast (n := 256) (i := row) (v := en) (f := fi) C hK hP hD hS 1 0 rfl rfl (by omega) (Nat.le_of_ble_eq_true rfl) dX2_append_45 (fun H locs hP hD hS => ?_)
    have hP : va_P D vwCl (wR cy rr rf rl rc rn sa ka va oa (va_up fi row en) la co ne key tk cp) H := hP
    have hD : va_D A (wR cy rr rf rl rc rn sa ka va oa (va_up fi row en) la co ne key tk cp) := hD
    refine lv_aload_n hx hb dX2_append_46 rfl (lv_at hl 1 rfl) ?_
    refine tq_get (C0 := RX2) (T := TX2) (N := 5) (ci := 2) (k := 4) C gX2 inX2 rfl (by decide) rfl fl_X2_21 hK hP 0 rfl rfl dX2_append_47 ?_
    refine lv_iload_n hx hb dX2_append_50 rfl (lv_at hl 3 rfl) ?_
    refine lv_iconst (v := nI 0) hx hb dX2_append_51 (by decide) ?_
    refine tq_iast (n := 121) (i := en) (v := 0) (f := ne) C hK hP hD hS 4 0 rfl rfl (Nat.lt_succ_of_le h2) (Nat.le_of_ble_eq_true rfl) dX2_append_52 (fun H locs hP hD hS => ?_)
    have hP : va_P D vwCl (wR cy rr rf rl rc rn sa ka va oa (va_up fi row en) la co (va_up ne en 0) key tk cp) H := hP
    have hD : va_D A (wR cy rr rf rl rc rn sa ka va oa (va_up fi row en) la co (va_up ne en 0) key tk cp) := hD
    refine lv_aload_n hx hb dX2_append_53 rfl (lv_at hl 1 rfl) ?_
    refine tq_get (C0 := RX2) (T := TX2) (N := 5) (ci := 2) (k := 2) C gX2 inX2 rfl (by decide) rfl fl_X2_15 hK hP 0 rfl rfl dX2_append_54 ?_
    refine lv_iload_n hx hb dX2_append_57 rfl (lv_at hl 2 rfl) ?_
    refine lv_iload_n hx hb dX2_append_58 rfl (lv_at hl 3 rfl) ?_
    refine tq_iast (n := 256) (i := row) (v := en) (f := la) C hK hP hD hS 2 0 rfl rfl (by omega) (Nat.le_of_ble_eq_true rfl) dX2_append_59 (fun H locs hP hD hS => ?_)
    have hP : va_P D vwCl (wR cy rr rf rl rc rn sa ka va oa (va_up fi row en) (va_up la row en) co (va_up ne en 0) key tk cp) H := hP
    have hD : va_D A (wR cy rr rf rl rc rn sa ka va oa (va_up fi row en) (va_up la row en) co (va_up ne en 0) key tk cp) := hD
    refine lv_aload_n hx hb dX2_append_60 rfl (lv_at hl 1 rfl) ?_
    refine tq_get (C0 := RX2) (T := TX2) (N := 5) (ci := 2) (k := 3) C gX2 inX2 rfl (by decide) rfl fl_X2_18 hK hP 0 rfl rfl dX2_append_61 ?_
    refine lv_iload_n hx hb dX2_append_64 rfl (lv_at hl 2 rfl) ?_
    refine lv_dup2_11 hx hb dX2_append_65 rfl rfl ?_
    refine tq_iald (n := 256) (i := row) (f := co) C hK hP 3 0 rfl rfl (by omega) (Nat.le_of_ble_eq_true rfl) dX2_append_66 ?_
    refine lv_iconst (v := nI 1) hx hb dX2_append_67 (by decide) ?_
    refine tq_iadd C dX2_append_68 ?_
    refine tq_iast (n := 256) (i := row) (v := ((co row) + 1)) (f := co) C hK hP hD hS 3 0 rfl rfl (by omega) (Nat.le_of_ble_eq_true rfl) dX2_append_69 (fun H locs hP hD hS => ?_)
    have hP : va_P D vwCl (wR cy rr rf rl rc rn sa ka va oa (va_up fi row en) (va_up la row en) (va_up co row ((co row) + 1)) (va_up ne en 0) key tk cp) H := hP
    have hD : va_D A (wR cy rr rf rl rc rn sa ka va oa (va_up fi row en) (va_up la row en) (va_up co row ((co row) + 1)) (va_up ne en 0) key tk cp) := hD
    exact tq_vret C (va_up fi row en, va_up la row en, va_up co row ((co row) + 1), va_up ne en 0) hP hD hS (⟨hap.1 hla, fun x hx hxe => up_n _ _ hxe⟩) (Nat.le_of_ble_eq_true rfl) (Nat.le_of_ble_eq_true rfl) dX2_append_70
  · have hap2 := hap.2 (by omega)
    refine lv_iload_n hx hb dX2_append_22 rfl (lv_at hl 0 rfl) ?_
    refine tq_callF (va_runSN C.fix (As := [.int (nI (la row))]) (rest := []) (c_X4_isEntry l D cy (la row) hap2.1 hap2.2.1) (tq_cN (n := 1) C mn_X2_46 sm_X4_isEntry ini_X4 cd_X4_isEntry ⟨by decide, by decide, by decide +kernel⟩ ⟨Nat.le_of_ble_eq_true rfl, Nat.le_of_ble_eq_true rfl⟩) ⟨tq_Pf.blind, tq_preF C hK (hP.sub [] rfl)⟩ rfl rfl hl.1 rfl (lv_room (Nat.le_of_ble_eq_true rfl)) dX2_append_23 ⟨Nat.le_of_ble_eq_true rfl, Nat.le_of_ble_eq_true rfl⟩) (fun r23 hr23 => ?_)
    obtain rfl := hr23
    refine lv_if_eq (tgt := 39) hx hb dX2_append_26 (by decide) (fun h9 => absurd h9 (by decide)) (fun _ => ?_)
    refine lv_aload_n hx hb dX2_append_29 rfl (lv_at hl 1 rfl) ?_
    refine tq_get (C0 := RX2) (T := TX2) (N := 5) (ci := 2) (k := 4) C gX2 inX2 rfl (by decide) rfl fl_X2_21 hK hP 0 rfl rfl dX2_append_30 ?_
    refine lv_iload_n hx hb dX2_append_33 rfl (lv_at hl 0 rfl) ?_
    refine lv_iload_n hx hb dX2_append_34 rfl (lv_at hl 3 rfl) ?_
    refine tq_iast (n := 121) (i := (la row)) (v := en) (f := ne) C hK hP hD hS 4 0 rfl rfl (Nat.lt_succ_of_le hap2.2.1) (Nat.le_of_ble_eq_true rfl) dX2_append_35 (fun H locs hP hD hS => ?_)
    have hP : va_P D vwCl (wR cy rr rf rl rc rn sa ka va oa fi la co (va_up ne (la row) en) key tk cp) H := hP
    have hD : va_D A (wR cy rr rf rl rc rn sa ka va oa fi la co (va_up ne (la row) en) key tk cp) := hD
    refine lv_goto (tgt := 46) hx hb dX2_append_36 (by decide) ?_
    refine lv_aload_n hx hb dX2_append_46 rfl (lv_at hl 1 rfl) ?_
    refine tq_get (C0 := RX2) (T := TX2) (N := 5) (ci := 2) (k := 4) C gX2 inX2 rfl (by decide) rfl fl_X2_21 hK hP 0 rfl rfl dX2_append_47 ?_
    refine lv_iload_n hx hb dX2_append_50 rfl (lv_at hl 3 rfl) ?_
    refine lv_iconst (v := nI 0) hx hb dX2_append_51 (by decide) ?_
    refine tq_iast (n := 121) (i := en) (v := 0) (f := (va_up ne (la row) en)) C hK hP hD hS 4 0 rfl rfl (Nat.lt_succ_of_le h2) (Nat.le_of_ble_eq_true rfl) dX2_append_52 (fun H locs hP hD hS => ?_)
    have hP : va_P D vwCl (wR cy rr rf rl rc rn sa ka va oa fi la co (va_up (va_up ne (la row) en) en 0) key tk cp) H := hP
    have hD : va_D A (wR cy rr rf rl rc rn sa ka va oa fi la co (va_up (va_up ne (la row) en) en 0) key tk cp) := hD
    refine lv_aload_n hx hb dX2_append_53 rfl (lv_at hl 1 rfl) ?_
    refine tq_get (C0 := RX2) (T := TX2) (N := 5) (ci := 2) (k := 2) C gX2 inX2 rfl (by decide) rfl fl_X2_15 hK hP 0 rfl rfl dX2_append_54 ?_
    refine lv_iload_n hx hb dX2_append_57 rfl (lv_at hl 2 rfl) ?_
    refine lv_iload_n hx hb dX2_append_58 rfl (lv_at hl 3 rfl) ?_
    refine tq_iast (n := 256) (i := row) (v := en) (f := la) C hK hP hD hS 2 0 rfl rfl (by omega) (Nat.le_of_ble_eq_true rfl) dX2_append_59 (fun H locs hP hD hS => ?_)
    have hP : va_P D vwCl (wR cy rr rf rl rc rn sa ka va oa fi (va_up la row en) co (va_up (va_up ne (la row) en) en 0) key tk cp) H := hP
    have hD : va_D A (wR cy rr rf rl rc rn sa ka va oa fi (va_up la row en) co (va_up (va_up ne (la row) en) en 0) key tk cp) := hD
    refine lv_aload_n hx hb dX2_append_60 rfl (lv_at hl 1 rfl) ?_
    refine tq_get (C0 := RX2) (T := TX2) (N := 5) (ci := 2) (k := 3) C gX2 inX2 rfl (by decide) rfl fl_X2_18 hK hP 0 rfl rfl dX2_append_61 ?_
    refine lv_iload_n hx hb dX2_append_64 rfl (lv_at hl 2 rfl) ?_
    refine lv_dup2_11 hx hb dX2_append_65 rfl rfl ?_
    refine tq_iald (n := 256) (i := row) (f := co) C hK hP 3 0 rfl rfl (by omega) (Nat.le_of_ble_eq_true rfl) dX2_append_66 ?_
    refine lv_iconst (v := nI 1) hx hb dX2_append_67 (by decide) ?_
    refine tq_iadd C dX2_append_68 ?_
    refine tq_iast (n := 256) (i := row) (v := ((co row) + 1)) (f := co) C hK hP hD hS 3 0 rfl rfl (by omega) (Nat.le_of_ble_eq_true rfl) dX2_append_69 (fun H locs hP hD hS => ?_)
    have hP : va_P D vwCl (wR cy rr rf rl rc rn sa ka va oa fi (va_up la row en) (va_up co row ((co row) + 1)) (va_up (va_up ne (la row) en) en 0) key tk cp) H := hP
    have hD : va_D A (wR cy rr rf rl rc rn sa ka va oa fi (va_up la row en) (va_up co row ((co row) + 1)) (va_up (va_up ne (la row) en) en 0) key tk cp) := hD
    exact tq_vret C (fi, va_up la row en, va_up co row ((co row) + 1), va_up (va_up ne (la row) en) en 0) hP hD hS (⟨hap2.2.2.2, fun x hx hxe => (up_n _ _ hxe).trans (up_n _ _ (fun z : x = la row => hx (z ▸ hap2.2.2.1)))⟩) (Nat.le_of_ble_eq_true rfl) (Nat.le_of_ble_eq_true rfl) dX2_append_70
set_option maxHeartbeats 4000000 in
set_option maxRecDepth 100000 in
theorem c_X2_entryBefore (l : Launch) (D : va_G) (cy : ClassId) (rr : Nat) (rf : Nat) (rl : Nat) (rc : Nat) (rn : Nat) (sa : Nat) (ka : Nat) (va : Nat) (oa : Nat) (fi : Nat → Nat) (la : Nat → Nat) (co : Nat → Nat) (ne : Nat → Nat) (key : Nat → Nat) (tk : Nat) (cp : Nat) (row : Nat) (en : Nat) (rows : Nat → List Nat) (hRR : RR fi la co ne rows) (hrow : row < 256) (h2 : en ≤ 120) (P Q : List Nat) (hL : rows row = P ++ en :: Q) (hPn : en ∉ P) (hQn : en ∉ Q)  : tq_F l yX2_entryBefore cX2_entryBefore 7 (some .int) 2 41 D cy (wR cy rr rf rl rc rn sa ka va oa fi la co ne key tk cp) [.ref (rr), .int (nI (row)), .int (nI (en))] (fun r => r = (nI (P.getLastD 0))) := by
  refine tq_F.mk (by decide) (Nat.le_of_ble_eq_true rfl) ?_
  intro p e s m args below meth c C hP hK ls hl
  obtain ⟨hx, hb, hml, hown, hrt, hlk, hT⟩ := id C
  have hl : lv_has ls 7 [(0, .ref (rr)), (1, .int (nI (row))), (2, .int (nI (en)))] := hl
  have hlen := (hRR.1 row hrow).1
  have hle := hRR.len hrow
  have hlp : (rows row).length = P.length + (Q.length + 1) := by rw [hL]; simp
  refine lv_iconst (v := nI 0) hx hb dX2_entryBefore_0 (by decide) ?_
  refine lv_istore_n (lv' := [(3, .int (nI (0))), (0, .ref (rr)), (1, .int (nI (row))), (2, .int (nI (en)))]) hx hb dX2_entryBefore_1 rfl hl (by decide) rfl (fun ls hl => ?_)
  refine lv_aload_n hx hb dX2_entryBefore_2 rfl (lv_at hl 1 rfl) ?_
  refine lv_iload_n hx hb dX2_entryBefore_3 rfl (lv_at hl 2 rfl) ?_
  refine tq_callF (va_runV C.fix (As := [.int (nI (row))]) (rest := []) (c_X2_firstOf l D cy rr rf rl rc rn sa ka va oa fi la co ne key tk cp row hrow) (tq_cV (n := 1) C ml_X2_32 im_X2_firstOf se_X2_firstOf ini_X2 cd_X2_firstOf ⟨by decide, by decide, by decide +kernel⟩ ⟨Nat.le_of_ble_eq_true rfl, Nat.le_of_ble_eq_true rfl⟩) ⟨tq_Pf.blind, va_recv hK hP (ci := 2) (q0 := 0) rfl rfl, tq_preF C hK hP⟩ rfl rfl hl.1 rfl (lv_room (Nat.le_of_ble_eq_true rfl)) dX2_entryBefore_4 ⟨Nat.le_of_ble_eq_true rfl, Nat.le_of_ble_eq_true rfl⟩) (fun r4 hr4 => ?_)
  obtain rfl := hr4
  refine tq_top (y := nI ((rows row).getD 0 0)) (by rw [hRR.fst hrow]) ?_
  refine lv_istore (lv' := [(4, .int (nI ((rows row).getD 0 0))), (3, .int (nI (0))), (0, .ref (rr)), (1, .int (nI (row))), (2, .int (nI (en)))]) hx hb dX2_entryBefore_7 hl (by decide) rfl (fun ls hl => ?_)
  refine lv_aload_n hx hb dX2_entryBefore_9 rfl (lv_at hl 2 rfl) ?_
  refine lv_iload_n hx hb dX2_entryBefore_10 rfl (lv_at hl 3 rfl) ?_
  refine tq_callF (va_runV C.fix (As := [.int (nI (row))]) (rest := []) (c_X2_count l D cy rr rf rl rc rn sa ka va oa fi la co ne key tk cp row hrow) (tq_cV (n := 1) C ml_X2_56 im_X2_count se_X2_count ini_X2 cd_X2_count ⟨by decide, by decide, by decide +kernel⟩ ⟨Nat.le_of_ble_eq_true rfl, Nat.le_of_ble_eq_true rfl⟩) ⟨tq_Pf.blind, va_recv hK hP (ci := 2) (q0 := 0) rfl rfl, tq_preF C hK hP⟩ rfl rfl hl.1 rfl (lv_room (Nat.le_of_ble_eq_true rfl)) dX2_entryBefore_11 ⟨Nat.le_of_ble_eq_true rfl, Nat.le_of_ble_eq_true rfl⟩) (fun r11 hr11 => ?_)
  obtain rfl := hr11
  refine lv_istore (lv' := [(5, .int (nI (co row))), (4, .int (nI ((rows row).getD 0 0))), (3, .int (nI (0))), (0, .ref (rr)), (1, .int (nI (row))), (2, .int (nI (en)))]) hx hb dX2_entryBefore_14 hl (by decide) rfl (fun ls hl => ?_)
  refine lv_iconst (v := nI 0) hx hb dX2_entryBefore_16 (by decide) ?_
  refine lv_istore (lv' := [(6, .int (nI (0))), (5, .int (nI (co row))), (4, .int (nI ((rows row).getD 0 0))), (3, .int (nI (0))), (0, .ref (rr)), (1, .int (nI (row))), (2, .int (nI (en)))]) hx hb dX2_entryBefore_17 hl (by decide) rfl (fun ls hl => ?_)
  suffices hlp19 : ∀ (n19 : Nat) (i : Nat), P.length - i < n19 → (i ≤ P.length) → ∀ ls : Array Slot, lv_has ls 7 [(0, .ref (rr)), (1, .int (nI (row))), (2, .int (nI (en))), (3, .int (nI ((P.take i).getLastD 0))), (4, .int (nI ((rows row).getD i 0))), (5, .int (nI (co row))), (6, .int (nI (i)))] → W p l e ({ frames := 2, cells := 0, slots := 0, locals := 41 } : Room) s m args below meth c s.heap [] 0 0 (MQ below (tq_Qf (fun r => r = (nI (P.getLastD 0)))) args s 0 0 (fun _ => False)) (F0 m 19 ls []) from
    hlp19 (P.length + 1) 0 (by omega) (by omega) _ (lv_sub hl [4, 5, 6, 3, 2, 1, 0] rfl)
  intro n19
  induction n19 with
  | zero => intro i hf; exact absurd hf (Nat.not_lt_zero _)
  | succ n19 ih19 =>
    intro i hf19 hi ls hl
    refine lv_iload hx hb dX2_entryBefore_19 (lv_at hl 6 rfl) ?_
    refine lv_iload hx hb dX2_entryBefore_21 (lv_at hl 5 rfl) ?_
    refine tq_icmp_ge (tgt := 49) C (by omega) (by omega) dX2_entryBefore_23 (by decide) (fun h23 => ?_) (fun h23 => ?_)
    · omega
    · have hg := hRR.get hrow i
      refine lv_iload hx hb dX2_entryBefore_26 (lv_at hl 4 rfl) ?_
      refine lv_iload_n hx hb dX2_entryBefore_28 rfl (lv_at hl 2 rfl) ?_
      refine tq_icmp_eq (tgt := 49) C (by have := hg.1; omega) (by omega) dX2_entryBefore_29 (by decide) (fun h29 => ?_) (fun h29 => ?_)
      · have hi4 : i = P.length := by
          rcases Nat.lt_or_ge i P.length with q | q
          · refine absurd (h29 ▸ ?_ : en ∈ P) hPn
            rw [hL, getD_left q]; exact getD_mem q
          · omega
        refine lv_iload_n hx hb dX2_entryBefore_49 rfl (lv_at hl 3 rfl) ?_
        exact tq_fret (v := (nI ((P.take i).getLastD 0))) C rfl (by rw [hi4, List.take_length]) dX2_entryBefore_50
      · have hi3 : i < P.length := by
          rcases Nat.lt_or_ge i P.length with q | q
          · exact q
          · exact absurd (by rw [show i = P.length from by omega, hL]; simp) h29
        refine lv_iload hx hb dX2_entryBefore_32 (lv_at hl 4 rfl) ?_
        refine lv_istore_n (lv' := [(3, .int (nI ((rows row).getD i 0))), (0, .ref (rr)), (1, .int (nI (row))), (2, .int (nI (en))), (4, .int (nI ((rows row).getD i 0))), (5, .int (nI (co row))), (6, .int (nI (i)))]) hx hb dX2_entryBefore_34 rfl hl (by decide) rfl (fun ls hl => ?_)
        refine lv_aload_n hx hb dX2_entryBefore_35 rfl (lv_at hl 1 rfl) ?_
        refine lv_iload hx hb dX2_entryBefore_36 (lv_at hl 4 rfl) ?_
        refine tq_callF (va_runV C.fix (As := [.int (nI ((rows row).getD i 0))]) (rest := []) (c_X2_after l D cy rr rf rl rc rn sa ka va oa fi la co ne key tk cp ((rows row).getD i 0) hg.1) (tq_cV (n := 1) C ml_X2_36 im_X2_after se_X2_after ini_X2 cd_X2_after ⟨by decide, by decide, by decide +kernel⟩ ⟨Nat.le_of_ble_eq_true rfl, Nat.le_of_ble_eq_true rfl⟩) ⟨tq_Pf.blind, va_recv hK hP (ci := 2) (q0 := 0) rfl rfl, tq_preF C hK hP⟩ rfl rfl hl.1 rfl (lv_room (Nat.le_of_ble_eq_true rfl)) dX2_entryBefore_38 ⟨Nat.le_of_ble_eq_true rfl, Nat.le_of_ble_eq_true rfl⟩) (fun r38 hr38 => ?_)
        obtain rfl := hr38
        refine tq_top (y := nI ((rows row).getD (i + 1) 0)) (by rw [hRR.nxt hrow]) ?_
        refine lv_istore (lv' := [(4, .int (nI ((rows row).getD (i + 1) 0))), (3, .int (nI ((rows row).getD i 0))), (0, .ref (rr)), (1, .int (nI (row))), (2, .int (nI (en))), (5, .int (nI (co row))), (6, .int (nI (i)))]) hx hb dX2_entryBefore_41 hl (by decide) rfl (fun ls hl => ?_)
        refine lv_iinc (v := (nI (i + 1))) (lv' := [(6, .int (nI (i + 1))), (4, .int (nI ((rows row).getD (i + 1) 0))), (3, .int (nI ((rows row).getD i 0))), (0, .ref (rr)), (1, .int (nI (row))), (2, .int (nI (en))), (5, .int (nI (co row)))]) hx hb dX2_entryBefore_43 hl (k := 6) rfl (tq_inc1 _) (by decide) rfl (fun ls hl => ?_)
        refine lv_goto (tgt := 19) hx hb dX2_entryBefore_46 (by decide) ?_
        rw [show (rows row).getD i 0 = (P.take (i + 1)).getLastD 0 from by rw [hL, getD_left hi3, take_last hi3]] at hl
        exact ih19 (i + 1) (by omega) (by omega) _ (lv_sub hl [3, 4, 5, 2, 1, 6, 0] rfl)
set_option maxHeartbeats 4000000 in
set_option maxRecDepth 100000 in
theorem c_X2_unlink (l : Launch) (D : va_G) (cy : ClassId) (rr : Nat) (rf : Nat) (rl : Nat) (rc : Nat) (rn : Nat) (sa : Nat) (ka : Nat) (va : Nat) (oa : Nat) (fi : Nat → Nat) (la : Nat → Nat) (co : Nat → Nat) (ne : Nat → Nat) (key : Nat → Nat) (tk : Nat) (cp : Nat) (row : Nat) (en : Nat) (rows : Nat → List Nat) (hRR : RR fi la co ne rows) (hrow : row < 256) (h1 : 1 ≤ en) (h2 : en ≤ 120) (P Q : List Nat) (hL : rows row = P ++ en :: Q) (hPn : en ∉ P) (hQn : en ∉ Q)  : tq_V (S := (Nat → Nat) × (Nat → Nat) × (Nat → Nat) × (Nat → Nat)) l yX2_unlink cX2_unlink 4 3 67 0 0 D cy (wR cy rr rf rl rc rn sa ka va oa fi la co ne key tk cp) [.ref (rr), .int (nI (row)), .int (nI (en))] (fun u => RR u.1 u.2.1 u.2.2.1 u.2.2.2 (fun r => (rows r).filter (· != en))) (fun u => (wR cy rr rf rl rc rn sa ka va oa u.1 u.2.1 u.2.2.1 u.2.2.2 key tk cp)) := by
  refine tq_V.mk (by decide) (Nat.le_of_ble_eq_true rfl) ?_
  intro p e s m args below meth c A C hin hP hK hD hS hA ls hl
  obtain ⟨hx, hb, hml, hown, hrt, hlk, hT⟩ := id C
  have hl : lv_has ls 4 [(0, .ref (rr)), (1, .int (nI (row))), (2, .int (nI (en)))] := hl
  have hlen := (hRR.1 row hrow).1
  have hle := hRR.len hrow
  have hun := hRR.unlink hrow P Q hL hPn hQn
  have hll : (rows row).length = P.length + (Q.length + 1) := by rw [hL]; simp
  refine lv_iload_n hx hb dX2_unlink_0 rfl (lv_at hl 1 rfl) ?_
  refine tq_callF (va_runSN C.fix (As := [.int (nI (row))]) (rest := []) (c_X4_isRow l D cy row hrow) (tq_cN (n := 1) C mn_X2_28 sm_X4_isRow ini_X4 cd_X4_isRow ⟨by decide, by decide, by decide +kernel⟩ ⟨Nat.le_of_ble_eq_true rfl, Nat.le_of_ble_eq_true rfl⟩) ⟨tq_Pf.blind, tq_preF C hK (hP.sub [] rfl)⟩ rfl rfl hl.1 rfl (lv_room (Nat.le_of_ble_eq_true rfl)) dX2_unlink_1 ⟨Nat.le_of_ble_eq_true rfl, Nat.le_of_ble_eq_true rfl⟩) (fun r1 hr1 => ?_)
  obtain rfl := hr1
  refine lv_if_eq (tgt := 14) hx hb dX2_unlink_4 (by decide) (fun h9 => absurd h9 (by decide)) (fun _ => ?_)
  refine lv_iload_n hx hb dX2_unlink_7 rfl (lv_at hl 2 rfl) ?_
  refine tq_callF (va_runSN C.fix (As := [.int (nI (en))]) (rest := []) (c_X4_isEntry l D cy en h1 h2) (tq_cN (n := 1) C mn_X2_46 sm_X4_isEntry ini_X4 cd_X4_isEntry ⟨by decide, by decide, by decide +kernel⟩ ⟨Nat.le_of_ble_eq_true rfl, Nat.le_of_ble_eq_true rfl⟩) ⟨tq_Pf.blind, tq_preF C hK (hP.sub [] rfl)⟩ rfl rfl hl.1 rfl (lv_room (Nat.le_of_ble_eq_true rfl)) dX2_unlink_8 ⟨Nat.le_of_ble_eq_true rfl, Nat.le_of_ble_eq_true rfl⟩) (fun r8 hr8 => ?_)
  obtain rfl := hr8
  refine lv_if_ne (tgt := 15) hx hb dX2_unlink_11 (by decide) (fun _ => ?_) (fun h9 => absurd h9 (by decide))
  refine lv_aload_n hx hb dX2_unlink_15 rfl (lv_at hl 0 rfl) ?_
  refine lv_iload_n hx hb dX2_unlink_16 rfl (lv_at hl 1 rfl) ?_
  refine lv_iload_n hx hb dX2_unlink_17 rfl (lv_at hl 2 rfl) ?_
  refine tq_callF (va_runV C.fix (As := [.int (nI (row)), .int (nI (en))]) (rest := []) (c_X2_entryBefore l D cy rr rf rl rc rn sa ka va oa fi la co ne key tk cp row en rows hRR hrow h2 P Q hL hPn hQn) (tq_cV (n := 2) C ml_X2_49 im_X2_entryBefore se_X2_entryBefore ini_X2 cd_X2_entryBefore ⟨by decide, by decide, by decide +kernel⟩ ⟨Nat.le_of_ble_eq_true rfl, Nat.le_of_ble_eq_true rfl⟩) ⟨tq_Pf.blind, va_recv hK hP (ci := 2) (q0 := 0) rfl rfl, tq_preF C hK hP⟩ rfl rfl hl.1 rfl (lv_room (Nat.le_of_ble_eq_true rfl)) dX2_unlink_18 ⟨Nat.le_of_ble_eq_true rfl, Nat.le_of_ble_eq_true rfl⟩) (fun r18 hr18 => ?_)
  obtain rfl := hr18
  refine lv_istore_n (lv' := [(3, .int (nI (P.getLastD 0))), (0, .ref (rr)), (1, .int (nI (row))), (2, .int (nI (en)))]) hx hb dX2_unlink_21 rfl hl (by decide) rfl (fun ls hl => ?_)
  rcases List.eq_nil_or_concat P with hPe | ⟨P9, b9, hPe⟩
  · have hz9 : P.getLastD 0 = 0 := by rw [hPe]; rfl
    refine lv_iload_n hx hb dX2_unlink_22 rfl (lv_at hl 0 rfl) ?_
    refine tq_callF (va_runSN C.fix (As := [.int (nI (P.getLastD 0))]) (rest := []) (c_X4_isEntry_0 l D cy (P.getLastD 0) hz9) (tq_cN (n := 1) C mn_X2_46 sm_X4_isEntry ini_X4 cd_X4_isEntry ⟨by decide, by decide, by decide +kernel⟩ ⟨Nat.le_of_ble_eq_true rfl, Nat.le_of_ble_eq_true rfl⟩) ⟨tq_Pf.blind, tq_preF C hK (hP.sub [] rfl)⟩ rfl rfl hl.1 rfl (lv_room (Nat.le_of_ble_eq_true rfl)) dX2_unlink_23 ⟨Nat.le_of_ble_eq_true rfl, Nat.le_of_ble_eq_true rfl⟩) (fun r23 hr23 => ?_)
    obtain rfl := hr23
    refine lv_if_eq (tgt := 44) hx hb dX2_unlink_26 (by decide) (fun _ => ?_) (fun h9 => absurd (by decide : nI 0 = 0) h9)
    refine lv_aload_n hx hb dX2_unlink_44 rfl (lv_at hl 1 rfl) ?_
    refine tq_get (C0 := RX2) (T := TX2) (N := 5) (ci := 2) (k := 1) C gX2 inX2 rfl (by decide) rfl fl_X2_9 hK hP 0 rfl rfl dX2_unlink_45 ?_
    refine lv_iload_n hx hb dX2_unlink_48 rfl (lv_at hl 2 rfl) ?_
    refine lv_aload_n hx hb dX2_unlink_49 rfl (lv_at hl 1 rfl) ?_
    refine tq_get (C0 := RX2) (T := TX2) (N := 5) (ci := 2) (k := 4) C gX2 inX2 rfl (by decide) rfl fl_X2_21 hK hP 0 rfl rfl dX2_unlink_50 ?_
    refine lv_iload_n hx hb dX2_unlink_53 rfl (lv_at hl 3 rfl) ?_
    refine tq_iald (n := 121) (i := en) (f := ne) C hK hP 4 0 rfl rfl (Nat.lt_succ_of_le h2) (Nat.le_of_ble_eq_true rfl) dX2_unlink_54 ?_
    refine tq_iast (n := 256) (i := row) (v := (ne en)) (f := fi) C hK hP hD hS 1 0 rfl rfl (by omega) (Nat.le_of_ble_eq_true rfl) dX2_unlink_55 (fun H locs hP hD hS => ?_)
    have hP : va_P D vwCl (wR cy rr rf rl rc rn sa ka va oa (va_up fi row (ne en)) la co ne key tk cp) H := hP
    have hD : va_D A (wR cy rr rf rl rc rn sa ka va oa (va_up fi row (ne en)) la co ne key tk cp) := hD
    refine lv_aload_n hx hb dX2_unlink_56 rfl (lv_at hl 1 rfl) ?_
    refine tq_get (C0 := RX2) (T := TX2) (N := 5) (ci := 2) (k := 2) C gX2 inX2 rfl (by decide) rfl fl_X2_15 hK hP 0 rfl rfl dX2_unlink_57 ?_
    refine lv_iload_n hx hb dX2_unlink_60 rfl (lv_at hl 2 rfl) ?_
    refine tq_iald (n := 256) (i := row) (f := la) C hK hP 2 0 rfl rfl (by omega) (Nat.le_of_ble_eq_true rfl) dX2_unlink_61 ?_
    refine lv_iload_n hx hb dX2_unlink_62 rfl (lv_at hl 3 rfl) ?_
    have hla9 : la row ≤ 120 := by
      rw [(hRR.1 row hrow).2.2.1]; exact ((hRR.1 row hrow).2.2.2.2.1 _ (getLastD_mem (by rw [hL]; simp))).2
    refine tq_icmp_ne (tgt := 73) C (by omega) (by omega) dX2_unlink_63 (by decide) (fun h63 => ?_) (fun h63 => ?_)
    · refine lv_aload_n hx hb dX2_unlink_73 rfl (lv_at hl 1 rfl) ?_
      refine tq_get (C0 := RX2) (T := TX2) (N := 5) (ci := 2) (k := 3) C gX2 inX2 rfl (by decide) rfl fl_X2_18 hK hP 0 rfl rfl dX2_unlink_74 ?_
      refine lv_iload_n hx hb dX2_unlink_77 rfl (lv_at hl 2 rfl) ?_
      refine lv_dup2_11 hx hb dX2_unlink_78 rfl rfl ?_
      refine tq_iald (n := 256) (i := row) (f := co) C hK hP 3 0 rfl rfl (by omega) (Nat.le_of_ble_eq_true rfl) dX2_unlink_79 ?_
      refine lv_iconst (v := nI 1) hx hb dX2_unlink_80 (by decide) ?_
      refine tq_isub C (by omega) dX2_unlink_81 ?_
      refine tq_iast (n := 256) (i := row) (v := ((co row) - 1)) (f := co) C hK hP hD hS 3 0 rfl rfl (by omega) (Nat.le_of_ble_eq_true rfl) dX2_unlink_82 (fun H locs hP hD hS => ?_)
      have hP : va_P D vwCl (wR cy rr rf rl rc rn sa ka va oa (va_up fi row (ne en)) la (va_up co row ((co row) - 1)) ne key tk cp) H := hP
      have hD : va_D A (wR cy rr rf rl rc rn sa ka va oa (va_up fi row (ne en)) la (va_up co row ((co row) - 1)) ne key tk cp) := hD
      exact tq_vret C (va_up fi row (ne en), la, va_up co row ((co row) - 1), ne) hP hD hS (by have h := hun.1 hPe; rwa [if_neg (fun q => h63 (hun.2.2.mpr q))] at h) (Nat.le_of_ble_eq_true rfl) (Nat.le_of_ble_eq_true rfl) dX2_unlink_83
    · refine lv_aload_n hx hb dX2_unlink_66 rfl (lv_at hl 1 rfl) ?_
      refine tq_get (C0 := RX2) (T := TX2) (N := 5) (ci := 2) (k := 2) C gX2 inX2 rfl (by decide) rfl fl_X2_15 hK hP 0 rfl rfl dX2_unlink_67 ?_
      refine lv_iload_n hx hb dX2_unlink_70 rfl (lv_at hl 2 rfl) ?_
      refine lv_iload_n hx hb dX2_unlink_71 rfl (lv_at hl 0 rfl) ?_
      refine tq_iast (n := 256) (i := row) (v := (P.getLastD 0)) (f := la) C hK hP hD hS 2 0 rfl rfl (by omega) (Nat.le_of_ble_eq_true rfl) dX2_unlink_72 (fun H locs hP hD hS => ?_)
      have hP : va_P D vwCl (wR cy rr rf rl rc rn sa ka va oa (va_up fi row (ne en)) (va_up la row (P.getLastD 0)) co ne key tk cp) H := hP
      have hD : va_D A (wR cy rr rf rl rc rn sa ka va oa (va_up fi row (ne en)) (va_up la row (P.getLastD 0)) co ne key tk cp) := hD
      refine lv_aload_n hx hb dX2_unlink_73 rfl (lv_at hl 1 rfl) ?_
      refine tq_get (C0 := RX2) (T := TX2) (N := 5) (ci := 2) (k := 3) C gX2 inX2 rfl (by decide) rfl fl_X2_18 hK hP 0 rfl rfl dX2_unlink_74 ?_
      refine lv_iload_n hx hb dX2_unlink_77 rfl (lv_at hl 2 rfl) ?_
      refine lv_dup2_11 hx hb dX2_unlink_78 rfl rfl ?_
      refine tq_iald (n := 256) (i := row) (f := co) C hK hP 3 0 rfl rfl (by omega) (Nat.le_of_ble_eq_true rfl) dX2_unlink_79 ?_
      refine lv_iconst (v := nI 1) hx hb dX2_unlink_80 (by decide) ?_
      refine tq_isub C (by omega) dX2_unlink_81 ?_
      refine tq_iast (n := 256) (i := row) (v := ((co row) - 1)) (f := co) C hK hP hD hS 3 0 rfl rfl (by omega) (Nat.le_of_ble_eq_true rfl) dX2_unlink_82 (fun H locs hP hD hS => ?_)
      have hP : va_P D vwCl (wR cy rr rf rl rc rn sa ka va oa (va_up fi row (ne en)) (va_up la row (P.getLastD 0)) (va_up co row ((co row) - 1)) ne key tk cp) H := hP
      have hD : va_D A (wR cy rr rf rl rc rn sa ka va oa (va_up fi row (ne en)) (va_up la row (P.getLastD 0)) (va_up co row ((co row) - 1)) ne key tk cp) := hD
      exact tq_vret C (va_up fi row (ne en), va_up la row (P.getLastD 0), va_up co row ((co row) - 1), ne) hP hD hS (by have h := hun.1 hPe; rwa [if_pos (hun.2.2.mp h63)] at h) (Nat.le_of_ble_eq_true rfl) (Nat.le_of_ble_eq_true rfl) dX2_unlink_83
  · have hne9 : P ≠ [] := by rw [hPe]; simp
    have hb9 := (hRR.1 row hrow).2.2.2.2.1 (P.getLastD 0) (by rw [hL]; exact List.mem_append_left _ (getLastD_mem hne9))
    refine lv_iload_n hx hb dX2_unlink_22 rfl (lv_at hl 0 rfl) ?_
    refine tq_callF (va_runSN C.fix (As := [.int (nI (P.getLastD 0))]) (rest := []) (c_X4_isEntry l D cy (P.getLastD 0) hb9.1 hb9.2) (tq_cN (n := 1) C mn_X2_46 sm_X4_isEntry ini_X4 cd_X4_isEntry ⟨by decide, by decide, by decide +kernel⟩ ⟨Nat.le_of_ble_eq_true rfl, Nat.le_of_ble_eq_true rfl⟩) ⟨tq_Pf.blind, tq_preF C hK (hP.sub [] rfl)⟩ rfl rfl hl.1 rfl (lv_room (Nat.le_of_ble_eq_true rfl)) dX2_unlink_23 ⟨Nat.le_of_ble_eq_true rfl, Nat.le_of_ble_eq_true rfl⟩) (fun r23 hr23 => ?_)
    obtain rfl := hr23
    refine lv_if_eq (tgt := 44) hx hb dX2_unlink_26 (by decide) (fun h9 => absurd h9 (by decide)) (fun _ => ?_)
    refine lv_aload_n hx hb dX2_unlink_29 rfl (lv_at hl 1 rfl) ?_
    refine tq_get (C0 := RX2) (T := TX2) (N := 5) (ci := 2) (k := 4) C gX2 inX2 rfl (by decide) rfl fl_X2_21 hK hP 0 rfl rfl dX2_unlink_30 ?_
    refine lv_iload_n hx hb dX2_unlink_33 rfl (lv_at hl 0 rfl) ?_
    refine lv_aload_n hx hb dX2_unlink_34 rfl (lv_at hl 1 rfl) ?_
    refine tq_get (C0 := RX2) (T := TX2) (N := 5) (ci := 2) (k := 4) C gX2 inX2 rfl (by decide) rfl fl_X2_21 hK hP 0 rfl rfl dX2_unlink_35 ?_
    refine lv_iload_n hx hb dX2_unlink_38 rfl (lv_at hl 3 rfl) ?_
    refine tq_iald (n := 121) (i := en) (f := ne) C hK hP 4 0 rfl rfl (Nat.lt_succ_of_le h2) (Nat.le_of_ble_eq_true rfl) dX2_unlink_39 ?_
    refine tq_iast (n := 121) (i := (P.getLastD 0)) (v := (ne en)) (f := ne) C hK hP hD hS 4 0 rfl rfl (Nat.lt_succ_of_le hb9.2) (Nat.le_of_ble_eq_true rfl) dX2_unlink_40 (fun H locs hP hD hS => ?_)
    have hP : va_P D vwCl (wR cy rr rf rl rc rn sa ka va oa fi la co (va_up ne (P.getLastD 0) (ne en)) key tk cp) H := hP
    have hD : va_D A (wR cy rr rf rl rc rn sa ka va oa fi la co (va_up ne (P.getLastD 0) (ne en)) key tk cp) := hD
    refine lv_goto (tgt := 56) hx hb dX2_unlink_41 (by decide) ?_
    refine lv_aload_n hx hb dX2_unlink_56 rfl (lv_at hl 1 rfl) ?_
    refine tq_get (C0 := RX2) (T := TX2) (N := 5) (ci := 2) (k := 2) C gX2 inX2 rfl (by decide) rfl fl_X2_15 hK hP 0 rfl rfl dX2_unlink_57 ?_
    refine lv_iload_n hx hb dX2_unlink_60 rfl (lv_at hl 2 rfl) ?_
    refine tq_iald (n := 256) (i := row) (f := la) C hK hP 2 0 rfl rfl (by omega) (Nat.le_of_ble_eq_true rfl) dX2_unlink_61 ?_
    refine lv_iload_n hx hb dX2_unlink_62 rfl (lv_at hl 3 rfl) ?_
    have hla9 : la row ≤ 120 := by
      rw [(hRR.1 row hrow).2.2.1]; exact ((hRR.1 row hrow).2.2.2.2.1 _ (getLastD_mem (by rw [hL]; simp))).2
    refine tq_icmp_ne (tgt := 73) C (by omega) (by omega) dX2_unlink_63 (by decide) (fun h63 => ?_) (fun h63 => ?_)
    · refine lv_aload_n hx hb dX2_unlink_73 rfl (lv_at hl 1 rfl) ?_
      refine tq_get (C0 := RX2) (T := TX2) (N := 5) (ci := 2) (k := 3) C gX2 inX2 rfl (by decide) rfl fl_X2_18 hK hP 0 rfl rfl dX2_unlink_74 ?_
      refine lv_iload_n hx hb dX2_unlink_77 rfl (lv_at hl 2 rfl) ?_
      refine lv_dup2_11 hx hb dX2_unlink_78 rfl rfl ?_
      refine tq_iald (n := 256) (i := row) (f := co) C hK hP 3 0 rfl rfl (by omega) (Nat.le_of_ble_eq_true rfl) dX2_unlink_79 ?_
      refine lv_iconst (v := nI 1) hx hb dX2_unlink_80 (by decide) ?_
      refine tq_isub C (by omega) dX2_unlink_81 ?_
      refine tq_iast (n := 256) (i := row) (v := ((co row) - 1)) (f := co) C hK hP hD hS 3 0 rfl rfl (by omega) (Nat.le_of_ble_eq_true rfl) dX2_unlink_82 (fun H locs hP hD hS => ?_)
      have hP : va_P D vwCl (wR cy rr rf rl rc rn sa ka va oa fi la (va_up co row ((co row) - 1)) (va_up ne (P.getLastD 0) (ne en)) key tk cp) H := hP
      have hD : va_D A (wR cy rr rf rl rc rn sa ka va oa fi la (va_up co row ((co row) - 1)) (va_up ne (P.getLastD 0) (ne en)) key tk cp) := hD
      exact tq_vret C (fi, la, va_up co row ((co row) - 1), va_up ne (P.getLastD 0) (ne en)) hP hD hS (by have h := hun.2.1 hne9; rwa [if_neg (fun q => h63 (hun.2.2.mpr q))] at h) (Nat.le_of_ble_eq_true rfl) (Nat.le_of_ble_eq_true rfl) dX2_unlink_83
    · refine lv_aload_n hx hb dX2_unlink_66 rfl (lv_at hl 1 rfl) ?_
      refine tq_get (C0 := RX2) (T := TX2) (N := 5) (ci := 2) (k := 2) C gX2 inX2 rfl (by decide) rfl fl_X2_15 hK hP 0 rfl rfl dX2_unlink_67 ?_
      refine lv_iload_n hx hb dX2_unlink_70 rfl (lv_at hl 2 rfl) ?_
      refine lv_iload_n hx hb dX2_unlink_71 rfl (lv_at hl 0 rfl) ?_
      refine tq_iast (n := 256) (i := row) (v := (P.getLastD 0)) (f := la) C hK hP hD hS 2 0 rfl rfl (by omega) (Nat.le_of_ble_eq_true rfl) dX2_unlink_72 (fun H locs hP hD hS => ?_)
      have hP : va_P D vwCl (wR cy rr rf rl rc rn sa ka va oa fi (va_up la row (P.getLastD 0)) co (va_up ne (P.getLastD 0) (ne en)) key tk cp) H := hP
      have hD : va_D A (wR cy rr rf rl rc rn sa ka va oa fi (va_up la row (P.getLastD 0)) co (va_up ne (P.getLastD 0) (ne en)) key tk cp) := hD
      refine lv_aload_n hx hb dX2_unlink_73 rfl (lv_at hl 1 rfl) ?_
      refine tq_get (C0 := RX2) (T := TX2) (N := 5) (ci := 2) (k := 3) C gX2 inX2 rfl (by decide) rfl fl_X2_18 hK hP 0 rfl rfl dX2_unlink_74 ?_
      refine lv_iload_n hx hb dX2_unlink_77 rfl (lv_at hl 2 rfl) ?_
      refine lv_dup2_11 hx hb dX2_unlink_78 rfl rfl ?_
      refine tq_iald (n := 256) (i := row) (f := co) C hK hP 3 0 rfl rfl (by omega) (Nat.le_of_ble_eq_true rfl) dX2_unlink_79 ?_
      refine lv_iconst (v := nI 1) hx hb dX2_unlink_80 (by decide) ?_
      refine tq_isub C (by omega) dX2_unlink_81 ?_
      refine tq_iast (n := 256) (i := row) (v := ((co row) - 1)) (f := co) C hK hP hD hS 3 0 rfl rfl (by omega) (Nat.le_of_ble_eq_true rfl) dX2_unlink_82 (fun H locs hP hD hS => ?_)
      have hP : va_P D vwCl (wR cy rr rf rl rc rn sa ka va oa fi (va_up la row (P.getLastD 0)) (va_up co row ((co row) - 1)) (va_up ne (P.getLastD 0) (ne en)) key tk cp) H := hP
      have hD : va_D A (wR cy rr rf rl rc rn sa ka va oa fi (va_up la row (P.getLastD 0)) (va_up co row ((co row) - 1)) (va_up ne (P.getLastD 0) (ne en)) key tk cp) := hD
      exact tq_vret C (fi, va_up la row (P.getLastD 0), va_up co row ((co row) - 1), va_up ne (P.getLastD 0) (ne en)) hP hD hS (by have h := hun.2.1 hne9; rwa [if_pos (hun.2.2.mp h63)] at h) (Nat.le_of_ble_eq_true rfl) (Nat.le_of_ble_eq_true rfl) dX2_unlink_83
set_option maxHeartbeats 4000000 in
set_option maxRecDepth 100000 in
theorem c_X2_empty (l : Launch) (D : va_G) (cy : ClassId) (rr : Nat) (rf : Nat) (rl : Nat) (rc : Nat) (rn : Nat) (sa : Nat) (ka : Nat) (va : Nat) (oa : Nat) (fi : Nat → Nat) (la : Nat → Nat) (co : Nat → Nat) (ne : Nat → Nat) (key : Nat → Nat) (tk : Nat) (cp : Nat) (row : Nat) (hrow : row < 256) : tq_V (S := Unit) l yX2_empty cX2_empty 2 1 20 0 0 D cy (wR cy rr rf rl rc rn sa ka va oa fi la co ne key tk cp) [.ref (rr), .int (nI (row))] (fun _ => True) (fun u => (wR cy rr rf rl rc rn sa ka va oa (va_up fi row 0) (va_up la row 0) (va_up co row 0) ne key tk cp)) := by
  refine tq_V.mk (by decide) (Nat.le_of_ble_eq_true rfl) ?_
  intro p e s m args below meth c A C hin hP hK hD hS hA ls hl
  obtain ⟨hx, hb, hml, hown, hrt, hlk, hT⟩ := id C
  have hl : lv_has ls 2 [(0, .ref (rr)), (1, .int (nI (row)))] := hl
  refine lv_iload_n hx hb dX2_empty_0 rfl (lv_at hl 1 rfl) ?_
  refine tq_callF (va_runSN C.fix (As := [.int (nI (row))]) (rest := []) (c_X4_isRow l D cy row hrow) (tq_cN (n := 1) C mn_X2_28 sm_X4_isRow ini_X4 cd_X4_isRow ⟨by decide, by decide, by decide +kernel⟩ ⟨Nat.le_of_ble_eq_true rfl, Nat.le_of_ble_eq_true rfl⟩) ⟨tq_Pf.blind, tq_preF C hK (hP.sub [] rfl)⟩ rfl rfl hl.1 rfl (lv_room (Nat.le_of_ble_eq_true rfl)) dX2_empty_1 ⟨Nat.le_of_ble_eq_true rfl, Nat.le_of_ble_eq_true rfl⟩) (fun r1 hr1 => ?_)
  obtain rfl := hr1
  refine lv_if_eq (tgt := 28) hx hb dX2_empty_4 (by decide) (fun h9 => absurd h9 (by decide)) (fun _ => ?_)
  refine lv_aload_n hx hb dX2_empty_7 rfl (lv_at hl 0 rfl) ?_
  refine tq_get (C0 := RX2) (T := TX2) (N := 5) (ci := 2) (k := 1) C gX2 inX2 rfl (by decide) rfl fl_X2_9 hK hP 0 rfl rfl dX2_empty_8 ?_
  refine lv_iload_n hx hb dX2_empty_11 rfl (lv_at hl 1 rfl) ?_
  refine lv_iconst (v := nI 0) hx hb dX2_empty_12 (by decide) ?_
  refine tq_iast (n := 256) (i := row) (v := 0) (f := fi) C hK hP hD hS 1 0 rfl rfl (by omega) (Nat.le_of_ble_eq_true rfl) dX2_empty_13 (fun H locs hP hD hS => ?_)
  have hP : va_P D vwCl (wR cy rr rf rl rc rn sa ka va oa (va_up fi row 0) la co ne key tk cp) H := hP
  have hD : va_D A (wR cy rr rf rl rc rn sa ka va oa (va_up fi row 0) la co ne key tk cp) := hD
  refine lv_aload_n hx hb dX2_empty_14 rfl (lv_at hl 0 rfl) ?_
  refine tq_get (C0 := RX2) (T := TX2) (N := 5) (ci := 2) (k := 2) C gX2 inX2 rfl (by decide) rfl fl_X2_15 hK hP 0 rfl rfl dX2_empty_15 ?_
  refine lv_iload_n hx hb dX2_empty_18 rfl (lv_at hl 1 rfl) ?_
  refine lv_iconst (v := nI 0) hx hb dX2_empty_19 (by decide) ?_
  refine tq_iast (n := 256) (i := row) (v := 0) (f := la) C hK hP hD hS 2 0 rfl rfl (by omega) (Nat.le_of_ble_eq_true rfl) dX2_empty_20 (fun H locs hP hD hS => ?_)
  have hP : va_P D vwCl (wR cy rr rf rl rc rn sa ka va oa (va_up fi row 0) (va_up la row 0) co ne key tk cp) H := hP
  have hD : va_D A (wR cy rr rf rl rc rn sa ka va oa (va_up fi row 0) (va_up la row 0) co ne key tk cp) := hD
  refine lv_aload_n hx hb dX2_empty_21 rfl (lv_at hl 0 rfl) ?_
  refine tq_get (C0 := RX2) (T := TX2) (N := 5) (ci := 2) (k := 3) C gX2 inX2 rfl (by decide) rfl fl_X2_18 hK hP 0 rfl rfl dX2_empty_22 ?_
  refine lv_iload_n hx hb dX2_empty_25 rfl (lv_at hl 1 rfl) ?_
  refine lv_iconst (v := nI 0) hx hb dX2_empty_26 (by decide) ?_
  refine tq_iast (n := 256) (i := row) (v := 0) (f := co) C hK hP hD hS 3 0 rfl rfl (by omega) (Nat.le_of_ble_eq_true rfl) dX2_empty_27 (fun H locs hP hD hS => ?_)
  have hP : va_P D vwCl (wR cy rr rf rl rc rn sa ka va oa (va_up fi row 0) (va_up la row 0) (va_up co row 0) ne key tk cp) H := hP
  have hD : va_D A (wR cy rr rf rl rc rn sa ka va oa (va_up fi row 0) (va_up la row 0) (va_up co row 0) ne key tk cp) := hD
  exact tq_vret C () hP hD hS (trivial) (Nat.le_of_ble_eq_true rfl) (Nat.le_of_ble_eq_true rfl) dX2_empty_28
end
section

/-- where deal puts an entry -/
def tg (key : Nat → Nat) (t0 t1 bit e : Nat) : Nat := if hs (key e) / 2 ^ bit % 2 ^ 1 = 0 then t0 else t1
/-- the rows when k entries of L, once the row fr, are dealt -/
def rk (rows : Nat → List Nat) (L : List Nat) (key : Nat → Nat) (t0 t1 bit fr k : Nat) (r : Nat) : List Nat := va_up rows fr [] r ++ (L.take k).filter (fun e => tg key t0 t1 bit e == r)
theorem rk_0 {rows : Nat → List Nat} {L : List Nat} {key : Nat → Nat} {t0 t1 bit fr r : Nat} : rk rows L key t0 t1 bit fr 0 r = va_up rows fr [] r := by simp [rk]
theorem take_succD {L : List Nat} {k : Nat} (h : k < L.length) : L.take (k + 1) = L.take k ++ [L.getD k 0] := by
  rw [List.getD_eq_getElem?_getD, List.getElem?_eq_getElem h]
  exact List.take_succ_eq_append_getElem h
theorem drop_succD {L : List Nat} {k : Nat} (h : k < L.length) : L.drop k = L.getD k 0 :: L.drop (k + 1) := by
  rw [List.getD_eq_getElem?_getD, List.getElem?_eq_getElem h]
  exact List.drop_eq_getElem_cons h
theorem rk_step {rows : Nat → List Nat} {L : List Nat} {key : Nat → Nat} {t0 t1 bit fr k : Nat} (h : k < L.length) (r : Nat) :
    rk rows L key t0 t1 bit fr (k + 1) r = va_up (rk rows L key t0 t1 bit fr k) (tg key t0 t1 bit (L.getD k 0)) (rk rows L key t0 t1 bit fr k (tg key t0 t1 bit (L.getD k 0)) ++ [L.getD k 0]) r := by
  by_cases q : r = tg key t0 t1 bit (L.getD k 0)
  · rw [q, up_s]
    unfold rk
    rw [take_succD h, List.filter_append, List.append_assoc]
    simp
  · rw [up_n _ _ q]
    unfold rk
    rw [take_succD h, List.filter_append]
    have h2 : [L.getD k 0].filter (fun e => tg key t0 t1 bit e == r) = [] := by
      rw [List.filter_cons_of_neg (by rw [beq_iff_eq]; exact fun z => q z.symm)]
      rfl
    rw [h2, List.append_nil]
theorem rk_nx {ne : Nat → Nat} {L : List Nat} {k : Nat} (hc : Cs ne (L.drop k) 0) (h : k < L.length) (h1 : 1 ≤ L.getD k 0) : nx ne (L.getD k 0) = L.getD (k + 1) 0 := by
  rw [drop_succD h] at hc
  rw [show nx ne (L.getD k 0) = ne (L.getD k 0) from if_neg (by omega), hc.1, headD_getD, List.getD_eq_getElem?_getD, List.getD_eq_getElem?_getD, List.getElem?_drop]
theorem rk_mem {rows : Nat → List Nat} {L : List Nat} {key : Nat → Nat} {t0 t1 bit fr k r e : Nat} (h : e ∈ rk rows L key t0 t1 bit fr k r) : (r ≠ fr ∧ e ∈ rows r) ∨ e ∈ L.take k := by
  rcases List.mem_append.mp h with h | h
  · by_cases q : r = fr
    · rw [q, up_s] at h; exact absurd h List.not_mem_nil
    · rw [up_n _ _ q] at h; exact Or.inl ⟨q, h⟩
  · exact Or.inr (List.mem_filter.mp h).1
theorem nodup_take_drop {L : List Nat} (h : L.Nodup) {k e : Nat} (h1 : e ∈ L.take k) (h2 : e ∈ L.drop k) : False := by
  rw [← List.take_append_drop k L, List.nodup_append] at h
  exact h.2.2 e h1 e h2 rfl
theorem RR.rk_free {fi la co ne : Nat → Nat} {rows : Nat → List Nat} (h : RR fi la co ne rows) {key : Nat → Nat} {t0 t1 bit fr k : Nat} (hfr : fr < 256) : ∀ e ∈ (rows fr).drop k, ∀ r, r < 256 → e ∉ rk rows (rows fr) key t0 t1 bit fr k r := by
  intro e he r hr hm
  rcases rk_mem hm with ⟨q, hm⟩ | hm
  · exact h.2 fr r hfr hr (fun z => q z.symm) e (List.mem_of_mem_drop he) hm
  · exact nodup_take_drop (h.1 fr hfr).2.2.2.2.2 hm he
theorem tg_lt {key : Nat → Nat} {t0 t1 bit e : Nat} (h0 : t0 < 256) (h1 : t1 < 256) : tg key t0 t1 bit e < 256 := by
  unfold tg; split <;> assumption
/-- what so many numbers come to, together -/
def so (f : Nat → Nat) : Nat → Nat
  | 0 => 0
  | k + 1 => so f k + f k
theorem so_le {f : Nat → Nat} {b : Nat} : ∀ {n : Nat}, (∀ k, k < n → f k ≤ b) → so f n ≤ n * b
  | 0, _ => by simp [so]
  | n + 1, h => by
    have h1 := so_le (n := n) (fun k hk => h k (by omega))
    have h2 := h n (by omega)
    rw [Nat.succ_mul]
    show so f n + f n ≤ _
    omega
theorem RR.zero {ne : Nat → Nat} {fi la co : Nat → Nat} (h : ∀ r, r < 256 → fi r = 0 ∧ la r = 0 ∧ co r = 0) : RR fi la co ne (fun _ => []) :=
  ⟨fun r hr => ⟨(h r hr).2.2, (h r hr).1, (h r hr).2.1, trivial, fun _ h => absurd h List.not_mem_nil, List.nodup_nil⟩, fun _ _ _ _ _ _ h => absurd h List.not_mem_nil⟩
theorem pour_eq {key : Nat → Nat} {to r : Nat} {L : List Nat} : L.filter (fun e => tg key to to 0 e == r) = if to = r then L else [] := by
  unfold tg
  simp only [ite_self]
  by_cases q : to = r
  · subst q; simp
  · rw [if_neg q, List.filter_eq_nil_iff]
    intro a _
    simpa using q
theorem div_small {a b : Nat} (ha : a < 2 ^ 20) : a / b < 2 ^ 31 := Nat.lt_of_le_of_lt (Nat.div_le_self _ _) (by omega)

theorem dX2_deal_0 : decode cX2_deal 0 = .ok (.aload_n 0, 1) := by decide +kernel
theorem dX2_deal_1 : decode cX2_deal 1 = .ok (.iload_n 1, 1) := by decide +kernel
theorem dX2_deal_2 : decode cX2_deal 2 = .ok (.invokevirtual 56, 3) := by decide +kernel
theorem dX2_deal_5 : decode cX2_deal 5 = .ok (.istore 5, 2) := by decide +kernel
theorem dX2_deal_7 : decode cX2_deal 7 = .ok (.aload_n 0, 1) := by decide +kernel
theorem dX2_deal_8 : decode cX2_deal 8 = .ok (.iload_n 1, 1) := by decide +kernel
theorem dX2_deal_9 : decode cX2_deal 9 = .ok (.invokevirtual 32, 3) := by decide +kernel
theorem dX2_deal_12 : decode cX2_deal 12 = .ok (.istore 6, 2) := by decide +kernel
theorem dX2_deal_14 : decode cX2_deal 14 = .ok (.aload_n 0, 1) := by decide +kernel
theorem dX2_deal_15 : decode cX2_deal 15 = .ok (.iload_n 1, 1) := by decide +kernel
theorem dX2_deal_16 : decode cX2_deal 16 = .ok (.invokevirtual 59, 3) := by decide +kernel
theorem dX2_deal_19 : decode cX2_deal 19 = .ok (.iconst 0, 1) := by decide +kernel
theorem dX2_deal_20 : decode cX2_deal 20 = .ok (.istore 7, 2) := by decide +kernel
theorem dX2_deal_22 : decode cX2_deal 22 = .ok (.iload 7, 2) := by decide +kernel
theorem dX2_deal_24 : decode cX2_deal 24 = .ok (.iload 5, 2) := by decide +kernel
theorem dX2_deal_26 : decode cX2_deal 26 = .ok (.if_icmp .ge 52, 3) := by decide +kernel
theorem dX2_deal_29 : decode cX2_deal 29 = .ok (.aload_n 0, 1) := by decide +kernel
theorem dX2_deal_30 : decode cX2_deal 30 = .ok (.iload 6, 2) := by decide +kernel
theorem dX2_deal_32 : decode cX2_deal 32 = .ok (.invokevirtual 36, 3) := by decide +kernel
theorem dX2_deal_35 : decode cX2_deal 35 = .ok (.istore 8, 2) := by decide +kernel
theorem dX2_deal_37 : decode cX2_deal 37 = .ok (.aload_n 0, 1) := by decide +kernel
theorem dX2_deal_38 : decode cX2_deal 38 = .ok (.aload_n 0, 1) := by decide +kernel
theorem dX2_deal_39 : decode cX2_deal 39 = .ok (.getfield 24, 3) := by decide +kernel
theorem dX2_deal_42 : decode cX2_deal 42 = .ok (.iload 6, 2) := by decide +kernel
theorem dX2_deal_44 : decode cX2_deal 44 = .ok (.invokevirtual 63, 3) := by decide +kernel
theorem dX2_deal_47 : decode cX2_deal 47 = .ok (.invokestatic 68, 3) := by decide +kernel
theorem dX2_deal_50 : decode cX2_deal 50 = .ok (.iload 4, 2) := by decide +kernel
theorem dX2_deal_52 : decode cX2_deal 52 = .ok (.invokestatic 71, 3) := by decide +kernel
theorem dX2_deal_55 : decode cX2_deal 55 = .ok (.ifCond .ne 7, 3) := by decide +kernel
theorem dX2_deal_58 : decode cX2_deal 58 = .ok (.iload_n 2, 1) := by decide +kernel
theorem dX2_deal_59 : decode cX2_deal 59 = .ok (.goto 4, 3) := by decide +kernel
theorem dX2_deal_62 : decode cX2_deal 62 = .ok (.iload_n 3, 1) := by decide +kernel
theorem dX2_deal_63 : decode cX2_deal 63 = .ok (.iload 6, 2) := by decide +kernel
theorem dX2_deal_65 : decode cX2_deal 65 = .ok (.invokevirtual 74, 3) := by decide +kernel
theorem dX2_deal_68 : decode cX2_deal 68 = .ok (.iload 8, 2) := by decide +kernel
theorem dX2_deal_70 : decode cX2_deal 70 = .ok (.istore 6, 2) := by decide +kernel
theorem dX2_deal_72 : decode cX2_deal 72 = .ok (.iinc 7 1, 3) := by decide +kernel
theorem dX2_deal_75 : decode cX2_deal 75 = .ok (.goto (-53), 3) := by decide +kernel
theorem dX2_deal_78 : decode cX2_deal 78 = .ok (.return_, 1) := by decide +kernel
theorem dX2_pour_0 : decode cX2_pour 0 = .ok (.aload_n 0, 1) := by decide +kernel
theorem dX2_pour_1 : decode cX2_pour 1 = .ok (.iload_n 1, 1) := by decide +kernel
theorem dX2_pour_2 : decode cX2_pour 2 = .ok (.iload_n 2, 1) := by decide +kernel
theorem dX2_pour_3 : decode cX2_pour 3 = .ok (.iload_n 2, 1) := by decide +kernel
theorem dX2_pour_4 : decode cX2_pour 4 = .ok (.iconst 0, 1) := by decide +kernel
theorem dX2_pour_5 : decode cX2_pour 5 = .ok (.invokevirtual 52, 3) := by decide +kernel
theorem dX2_pour_8 : decode cX2_pour 8 = .ok (.return_, 1) := by decide +kernel
theorem dX2_emptyAllRows_0 : decode cX2_emptyAllRows 0 = .ok (.iconst 0, 1) := by decide +kernel
theorem dX2_emptyAllRows_1 : decode cX2_emptyAllRows 1 = .ok (.istore_n 1, 1) := by decide +kernel
theorem dX2_emptyAllRows_2 : decode cX2_emptyAllRows 2 = .ok (.iload_n 1, 1) := by decide +kernel
theorem dX2_emptyAllRows_3 : decode cX2_emptyAllRows 3 = .ok (.sipush 256, 3) := by decide +kernel
theorem dX2_emptyAllRows_6 : decode cX2_emptyAllRows 6 = .ok (.if_icmp .ge 14, 3) := by decide +kernel
theorem dX2_emptyAllRows_9 : decode cX2_emptyAllRows 9 = .ok (.aload_n 0, 1) := by decide +kernel
theorem dX2_emptyAllRows_10 : decode cX2_emptyAllRows 10 = .ok (.iload_n 1, 1) := by decide +kernel
theorem dX2_emptyAllRows_11 : decode cX2_emptyAllRows 11 = .ok (.invokevirtual 59, 3) := by decide +kernel
theorem dX2_emptyAllRows_14 : decode cX2_emptyAllRows 14 = .ok (.iinc 1 1, 3) := by decide +kernel
theorem dX2_emptyAllRows_17 : decode cX2_emptyAllRows 17 = .ok (.goto (-15), 3) := by decide +kernel
theorem dX2_emptyAllRows_20 : decode cX2_emptyAllRows 20 = .ok (.return_, 1) := by decide +kernel
set_option maxHeartbeats 4000000 in
set_option maxRecDepth 100000 in
theorem c_X2_deal (l : Launch) (D : va_G) (cy : ClassId) (rr : Nat) (rf : Nat) (rl : Nat) (rc : Nat) (rn : Nat) (sa : Nat) (ka : Nat) (va : Nat) (oa : Nat) (fi : Nat → Nat) (la : Nat → Nat) (co : Nat → Nat) (ne : Nat → Nat) (key : Nat → Nat) (tk : Nat) (cp : Nat) (fr : Nat) (t0 : Nat) (t1 : Nat) (bit : Nat) (rows : Nat → List Nat) (hRR : RR fi la co ne rows) (hkey : ∀ e, 1 ≤ e → e ≤ 120 → key e < 65536) (hrow : fr < 256) (h0 : t0 < 256) (h1 : t1 < 256) (hbit : bit < 16) : tq_V (S := (Nat → Nat) × (Nat → Nat) × (Nat → Nat) × (Nat → Nat)) l yX2_deal cX2_deal 9 2 43 0 0 D cy (wR cy rr rf rl rc rn sa ka va oa fi la co ne key tk cp) [.ref (rr), .int (nI (fr)), .int (nI (t0)), .int (nI (t1)), .int (nI (bit))] (fun u => RR u.1 u.2.1 u.2.2.1 u.2.2.2 (fun r => va_up rows fr [] r ++ (rows fr).filter (fun e => tg key t0 t1 bit e == r))) (fun u => (wR cy rr rf rl rc rn sa ka va oa u.1 u.2.1 u.2.2.1 u.2.2.2 key tk cp)) := by
  refine tq_V.mk (by decide) (Nat.le_of_ble_eq_true rfl) ?_
  intro p e s m args below meth c A C hin hP hK hD hS hA ls hl
  obtain ⟨hx, hb, hml, hown, hrt, hlk, hT⟩ := id C
  have hl : lv_has ls 9 [(0, .ref (rr)), (1, .int (nI (fr))), (2, .int (nI (t0))), (3, .int (nI (t1))), (4, .int (nI (bit)))] := hl
  have hlen := (hRR.1 fr hrow).1
  have hle := hRR.len hrow
  refine lv_aload_n hx hb dX2_deal_0 rfl (lv_at hl 0 rfl) ?_
  refine lv_iload_n hx hb dX2_deal_1 rfl (lv_at hl 1 rfl) ?_
  refine tq_callF (va_runV C.fix (As := [.int (nI (fr))]) (rest := []) (c_X2_count l D cy rr rf rl rc rn sa ka va oa fi la co ne key tk cp fr hrow) (tq_cV (n := 1) C ml_X2_56 im_X2_count se_X2_count ini_X2 cd_X2_count ⟨by decide, by decide, by decide +kernel⟩ ⟨Nat.le_of_ble_eq_true rfl, Nat.le_of_ble_eq_true rfl⟩) ⟨tq_Pf.blind, va_recv hK hP (ci := 2) (q0 := 0) rfl rfl, tq_preF C hK hP⟩ rfl rfl hl.1 rfl (lv_room (Nat.le_of_ble_eq_true rfl)) dX2_deal_2 ⟨Nat.le_of_ble_eq_true rfl, Nat.le_of_ble_eq_true rfl⟩) (fun r2 hr2 => ?_)
  obtain rfl := hr2
  refine lv_istore (lv' := [(5, .int (nI (co fr))), (0, .ref (rr)), (1, .int (nI (fr))), (2, .int (nI (t0))), (3, .int (nI (t1))), (4, .int (nI (bit)))]) hx hb dX2_deal_5 hl (by decide) rfl (fun ls hl => ?_)
  refine lv_aload_n hx hb dX2_deal_7 rfl (lv_at hl 1 rfl) ?_
  refine lv_iload_n hx hb dX2_deal_8 rfl (lv_at hl 2 rfl) ?_
  refine tq_callF (va_runV C.fix (As := [.int (nI (fr))]) (rest := []) (c_X2_firstOf l D cy rr rf rl rc rn sa ka va oa fi la co ne key tk cp fr hrow) (tq_cV (n := 1) C ml_X2_32 im_X2_firstOf se_X2_firstOf ini_X2 cd_X2_firstOf ⟨by decide, by decide, by decide +kernel⟩ ⟨Nat.le_of_ble_eq_true rfl, Nat.le_of_ble_eq_true rfl⟩) ⟨tq_Pf.blind, va_recv hK hP (ci := 2) (q0 := 0) rfl rfl, tq_preF C hK hP⟩ rfl rfl hl.1 rfl (lv_room (Nat.le_of_ble_eq_true rfl)) dX2_deal_9 ⟨Nat.le_of_ble_eq_true rfl, Nat.le_of_ble_eq_true rfl⟩) (fun r9 hr9 => ?_)
  obtain rfl := hr9
  refine tq_top (y := nI ((rows fr).getD 0 0)) (by rw [hRR.fst hrow]) ?_
  refine lv_istore (lv' := [(6, .int (nI ((rows fr).getD 0 0))), (5, .int (nI (co fr))), (0, .ref (rr)), (1, .int (nI (fr))), (2, .int (nI (t0))), (3, .int (nI (t1))), (4, .int (nI (bit)))]) hx hb dX2_deal_12 hl (by decide) rfl (fun ls hl => ?_)
  refine lv_aload_n hx hb dX2_deal_14 rfl (lv_at hl 2 rfl) ?_
  refine lv_iload_n hx hb dX2_deal_15 rfl (lv_at hl 3 rfl) ?_
  refine tq_callV (W3 := fun u => (wR cy rr rf rl rc rn sa ka va oa (va_up fi fr 0) (va_up la fr 0) (va_up co fr 0) ne key tk cp)) (wr := []) (va_runV C.fix (As := [.int (nI (fr))]) (rest := []) ((c_X2_empty l D cy rr rf rl rc rn sa ka va oa fi la co ne key tk cp fr hrow) s.heap.size) (tq_cV (n := 1) C ml_X2_59 im_X2_empty se_X2_empty ini_X2 cd_X2_empty ⟨by decide, by decide, by decide +kernel⟩ ⟨Nat.le_of_ble_eq_true rfl, Nat.le_of_ble_eq_true rfl⟩) ⟨tq_Pc.blind, va_recv hK hP (ci := 2) (q0 := 0) rfl rfl, tq_preC C hK hP hD⟩ rfl rfl hl.1 rfl (lv_room (Nat.le_of_ble_eq_true rfl)) dX2_deal_16 ⟨Nat.le_of_ble_eq_true rfl, Nat.le_of_ble_eq_true rfl⟩) hP hD hS hA [0, 1, 2, 3, 4, 5, 6] [] [0, 1, 2, 3, 4, 5, 6] rfl rfl (by decide) (by decide) (by decide) (fun _ => rfl) (fun u16 H locs hr16 hP hD hS => ?_)
  have hP : va_P D vwCl (wR cy rr rf rl rc rn sa ka va oa (va_up fi fr 0) (va_up la fr 0) (va_up co fr 0) ne key tk cp) H := hP
  have hD : va_D A (wR cy rr rf rl rc rn sa ka va oa (va_up fi fr 0) (va_up la fr 0) (va_up co fr 0) ne key tk cp) := hD
  refine lv_iconst (v := nI 0) hx hb dX2_deal_19 (by decide) ?_
  refine lv_istore (lv' := [(7, .int (nI (0))), (6, .int (nI ((rows fr).getD 0 0))), (5, .int (nI (co fr))), (0, .ref (rr)), (1, .int (nI (fr))), (2, .int (nI (t0))), (3, .int (nI (t1))), (4, .int (nI (bit)))]) hx hb dX2_deal_20 hl (by decide) rfl (fun ls hl => ?_)
  suffices hlp22 : ∀ (n22 : Nat) (k : Nat) (fi1 : Nat → Nat) (la1 : Nat → Nat) (co1 : Nat → Nat) (ne1 : Nat → Nat), (rows fr).length - k < n22 → (k ≤ (rows fr).length) → (RR fi1 la1 co1 ne1 (rk rows (rows fr) key t0 t1 bit fr k)) → (Cs ne1 ((rows fr).drop k) 0) → ∀ (H : Heap) (locs : List Loc), va_P D vwCl (wR cy rr rf rl rc rn sa ka va oa fi1 la1 co1 ne1 key tk cp) H → va_D A (wR cy rr rf rl rc rn sa ka va oa fi1 la1 co1 ne1 key tk cp) → va_S A s.heap H locs → ∀ ls : Array Slot, lv_has ls 9 [(0, .ref (rr)), (1, .int (nI (fr))), (2, .int (nI (t0))), (3, .int (nI (t1))), (4, .int (nI (bit))), (5, .int (nI (co fr))), (6, .int (nI ((rows fr).getD k 0))), (7, .int (nI (k)))] → W p l e ({ frames := 2, cells := 0, slots := 0, locals := 43 } : Room) s m args below meth c H locs (0 + 0) (0 + 0) (MQ below (va_Qv (S := (Nat → Nat) × (Nat → Nat) × (Nat → Nat) × (Nat → Nat)) (fun u => RR u.1 u.2.1 u.2.2.1 u.2.2.2 (fun r => va_up rows fr [] r ++ (rows fr).filter (fun e => tg key t0 t1 bit e == r))) (tq_B D A (fun u => (wR cy rr rf rl rc rn sa ka va oa u.1 u.2.1 u.2.2.1 u.2.2.2 key tk cp))) A) args s 0 0 A) (F0 m 22 ls []) from
    hlp22 ((rows fr).length + 1) 0 (va_up fi fr 0) (va_up la fr 0) (va_up co fr 0) ne (by omega) (by omega) ((hRR.empty fr).congr (fun r _ => rk_0)) (by rw [List.drop_zero]; exact (hRR.1 fr hrow).2.2.2.1) _ _ hP hD hS _ (lv_sub hl [3, 4, 5, 6, 7, 2, 1, 0] rfl)
  intro n22
  induction n22 with
  | zero => intro k fi1 la1 co1 ne1 hf; exact absurd hf (Nat.not_lt_zero _)
  | succ n22 ih22 =>
    intro k fi1 la1 co1 ne1 hf22 hk hR1 hCs H locs hP hD hS ls hl
    refine lv_iload hx hb dX2_deal_22 (lv_at hl 7 rfl) ?_
    refine lv_iload hx hb dX2_deal_24 (lv_at hl 5 rfl) ?_
    refine tq_icmp_ge (tgt := 78) C (by omega) (by omega) dX2_deal_26 (by decide) (fun h26 => ?_) (fun h26 => ?_)
    · exact tq_vret C (fi1, la1, co1, ne1) hP hD hS (hR1.congr (fun r _ => by rw [show k = (rows fr).length from by omega]; simp [rk])) (Nat.le_of_ble_eq_true rfl) (Nat.le_of_ble_eq_true rfl) dX2_deal_78
    · have hk2 : k < (rows fr).length := by omega
      have hg := hRR.get hrow k
      have hg2 := hg.2 hk2
      have hk9 := hkey _ hg2.1 hg.1
      refine lv_aload_n hx hb dX2_deal_29 rfl (lv_at hl 0 rfl) ?_
      refine lv_iload hx hb dX2_deal_30 (lv_at hl 6 rfl) ?_
      refine tq_callF (va_runV C.fix (As := [.int (nI ((rows fr).getD k 0))]) (rest := []) (c_X2_after l D cy rr rf rl rc rn sa ka va oa fi1 la1 co1 ne1 key tk cp ((rows fr).getD k 0) hg.1) (tq_cV (n := 1) C ml_X2_36 im_X2_after se_X2_after ini_X2 cd_X2_after ⟨by decide, by decide, by decide +kernel⟩ ⟨Nat.le_of_ble_eq_true rfl, Nat.le_of_ble_eq_true rfl⟩) ⟨tq_Pf.blind, va_recv hK hP (ci := 2) (q0 := 0) rfl rfl, tq_preF C hK hP⟩ rfl rfl hl.1 rfl (lv_room (Nat.le_of_ble_eq_true rfl)) dX2_deal_32 ⟨Nat.le_of_ble_eq_true rfl, Nat.le_of_ble_eq_true rfl⟩) (fun r32 hr32 => ?_)
      obtain rfl := hr32
      refine tq_top (y := nI ((rows fr).getD (k + 1) 0)) (by rw [rk_nx hCs hk2 hg2.1]) ?_
      refine lv_istore (lv' := [(8, .int (nI ((rows fr).getD (k + 1) 0))), (0, .ref (rr)), (1, .int (nI (fr))), (2, .int (nI (t0))), (3, .int (nI (t1))), (4, .int (nI (bit))), (5, .int (nI (co fr))), (6, .int (nI ((rows fr).getD k 0))), (7, .int (nI (k)))]) hx hb dX2_deal_35 hl (by decide) rfl (fun ls hl => ?_)
      refine lv_aload_n hx hb dX2_deal_37 rfl (lv_at hl 1 rfl) ?_
      refine lv_aload_n hx hb dX2_deal_38 rfl (lv_at hl 1 rfl) ?_
      refine tq_get (C0 := RX2) (T := TX2) (N := 5) (ci := 2) (k := 0) C gX2 inX2 rfl (by decide) rfl fl_X2_24 hK hP 0 rfl rfl dX2_deal_39 ?_
      refine lv_iload hx hb dX2_deal_42 (lv_at hl 7 rfl) ?_
      refine tq_callF (va_runV C.fix (As := [.int (nI ((rows fr).getD k 0))]) (rest := [.ref (rr)]) (c_X3_keyOf l D cy sa ka va oa key tk cp ((rows fr).getD k 0) hg2.1 hg.1) (tq_cV (n := 1) C ml_X2_63 im_X3_keyOf se_X3_keyOf ini_X3 cd_X3_keyOf ⟨by decide, by decide, by decide +kernel⟩ ⟨Nat.le_of_ble_eq_true rfl, Nat.le_of_ble_eq_true rfl⟩) ⟨tq_Pf.blind, va_recv hK hP (ci := 3) (q0 := 5) rfl rfl, tq_preF C hK (hP.sub [5, 6] rfl)⟩ rfl rfl hl.1 rfl (lv_room (Nat.le_of_ble_eq_true rfl)) dX2_deal_44 ⟨Nat.le_of_ble_eq_true rfl, Nat.le_of_ble_eq_true rfl⟩) (fun r44 hr44 => ?_)
      obtain rfl := hr44
      refine tq_callF (va_runSN C.fix (As := [.int (nI (key ((rows fr).getD k 0)))]) (rest := [.ref (rr)]) (c_X4_hash l D cy (key ((rows fr).getD k 0)) hk9) (tq_cN (n := 1) C mn_X2_68 sm_X4_hash ini_X4 cd_X4_hash ⟨by decide, by decide, by decide +kernel⟩ ⟨Nat.le_of_ble_eq_true rfl, Nat.le_of_ble_eq_true rfl⟩) ⟨tq_Pf.blind, tq_preF C hK (hP.sub [] rfl)⟩ rfl rfl hl.1 rfl (lv_room (Nat.le_of_ble_eq_true rfl)) dX2_deal_47 ⟨Nat.le_of_ble_eq_true rfl, Nat.le_of_ble_eq_true rfl⟩) (fun r47 hr47 => ?_)
      obtain rfl := hr47
      refine lv_iload hx hb dX2_deal_50 (lv_at hl 5 rfl) ?_
      refine tq_callF (va_runSN C.fix (As := [.int (nI (hs (key ((rows fr).getD k 0)))), .int (nI (bit))]) (rest := [.ref (rr)]) (c_X4_bitAt l D cy (hs (key ((rows fr).getD k 0))) bit (by have := hs_lt (key ((rows fr).getD k 0)); omega) (by omega)) (tq_cN (n := 2) C mn_X2_71 sm_X4_bitAt ini_X4 cd_X4_bitAt ⟨by decide, by decide, by decide +kernel⟩ ⟨Nat.le_of_ble_eq_true rfl, Nat.le_of_ble_eq_true rfl⟩) ⟨tq_Pf.blind, tq_preF C hK (hP.sub [] rfl)⟩ rfl rfl hl.1 rfl (lv_room (Nat.le_of_ble_eq_true rfl)) dX2_deal_52 ⟨Nat.le_of_ble_eq_true rfl, Nat.le_of_ble_eq_true rfl⟩) (fun r52 hr52 => ?_)
      obtain rfl := hr52
      refine tq_if_ne (tgt := 62) C (Nat.lt_of_lt_of_le (Nat.mod_lt _ (by decide)) (by decide)) dX2_deal_55 (by decide) (fun h55 => ?_) (fun h55 => ?_)
      · refine lv_iload_n hx hb dX2_deal_62 rfl (lv_at hl 4 rfl) ?_
        refine tq_top (y := nI (tg key t0 t1 bit ((rows fr).getD k 0))) (by rw [show tg key t0 t1 bit ((rows fr).getD k 0) = t1 from if_neg h55]) ?_
        refine lv_iload hx hb dX2_deal_63 (lv_at hl 7 rfl) ?_
        refine tq_callV (W3 := fun u => (wR cy rr rf rl rc rn sa ka va oa u.1 u.2.1 u.2.2.1 u.2.2.2 key tk cp)) (wr := []) (va_runV C.fix (As := [.int (nI (tg key t0 t1 bit ((rows fr).getD k 0))), .int (nI ((rows fr).getD k 0))]) (rest := []) ((c_X2_append l D cy rr rf rl rc rn sa ka va oa fi1 la1 co1 ne1 key tk cp (tg key t0 t1 bit ((rows fr).getD k 0)) ((rows fr).getD k 0) (rk rows (rows fr) key t0 t1 bit fr k) hR1 (tg_lt h0 h1) hg2.1 hg.1 (hRR.rk_free hrow _ (by rw [drop_succD hk2]; exact List.mem_cons_self))) H.size) (tq_cV (n := 2) C ml_X2_74 im_X2_append se_X2_append ini_X2 cd_X2_append ⟨by decide, by decide, by decide +kernel⟩ ⟨Nat.le_of_ble_eq_true rfl, Nat.le_of_ble_eq_true rfl⟩) ⟨tq_Pc.blind, va_recv hK hP (ci := 2) (q0 := 0) rfl rfl, tq_preC C hK hP hD⟩ rfl rfl hl.1 rfl (lv_room (Nat.le_of_ble_eq_true rfl)) dX2_deal_65 ⟨Nat.le_of_ble_eq_true rfl, Nat.le_of_ble_eq_true rfl⟩) hP hD hS hA [0, 1, 2, 3, 4, 5, 6] [] [0, 1, 2, 3, 4, 5, 6] rfl rfl (by decide) (by decide) (by decide) (fun _ => rfl) (fun u65 H locs hr65 hP hD hS => ?_)
        obtain ⟨fi2, la2, co2, ne2⟩ := u65
        dsimp only at hr65
        have hP : va_P D vwCl (wR cy rr rf rl rc rn sa ka va oa fi2 la2 co2 ne2 key tk cp) H := hP
        have hD : va_D A (wR cy rr rf rl rc rn sa ka va oa fi2 la2 co2 ne2 key tk cp) := hD
        refine lv_iload hx hb dX2_deal_68 (lv_at hl 0 rfl) ?_
        refine lv_istore (lv' := [(6, .int (nI ((rows fr).getD (k + 1) 0))), (8, .int (nI ((rows fr).getD (k + 1) 0))), (0, .ref (rr)), (1, .int (nI (fr))), (2, .int (nI (t0))), (3, .int (nI (t1))), (4, .int (nI (bit))), (5, .int (nI (co fr))), (7, .int (nI (k)))]) hx hb dX2_deal_70 hl (by decide) rfl (fun ls hl => ?_)
        refine lv_iinc (v := (nI (k + 1))) (lv' := [(7, .int (nI (k + 1))), (6, .int (nI ((rows fr).getD (k + 1) 0))), (8, .int (nI ((rows fr).getD (k + 1) 0))), (0, .ref (rr)), (1, .int (nI (fr))), (2, .int (nI (t0))), (3, .int (nI (t1))), (4, .int (nI (bit))), (5, .int (nI (co fr)))]) hx hb dX2_deal_72 hl (k := 8) rfl (tq_inc1 _) (by decide) rfl (fun ls hl => ?_)
        refine lv_goto (tgt := 22) hx hb dX2_deal_75 (by decide) ?_
        exact ih22 (k + 1) fi2 la2 co2 ne2 (by omega) (by omega) (hr65.1.congr (fun r _ => rk_step hk2 r)) (by
          have h8 := hCs
          rw [drop_succD hk2] at h8
          refine Cs_congr (fun e9 he9 => hr65.2 e9 (fun hm => ?_) (fun z => ?_)) h8.2
          · exact hRR.rk_free hrow e9 (by rw [drop_succD hk2]; exact List.mem_cons_of_mem _ he9) _ (tg_lt h0 h1) hm
          · have h7 := (hRR.1 fr hrow).2.2.2.2.2
            rw [← List.take_append_drop k (rows fr), drop_succD hk2, List.nodup_append, List.nodup_cons] at h7
            exact h7.2.1.1 (z ▸ he9)) _ _ hP hD hS _ (lv_sub hl [3, 4, 5, 6, 7, 8, 1, 0] rfl)
      · refine lv_iload_n hx hb dX2_deal_58 rfl (lv_at hl 3 rfl) ?_
        refine lv_goto (tgt := 63) hx hb dX2_deal_59 (by decide) ?_
        refine tq_top (y := nI (tg key t0 t1 bit ((rows fr).getD k 0))) (by rw [show tg key t0 t1 bit ((rows fr).getD k 0) = t0 from if_pos h55]) ?_
        refine lv_iload hx hb dX2_deal_63 (lv_at hl 7 rfl) ?_
        refine tq_callV (W3 := fun u => (wR cy rr rf rl rc rn sa ka va oa u.1 u.2.1 u.2.2.1 u.2.2.2 key tk cp)) (wr := []) (va_runV C.fix (As := [.int (nI (tg key t0 t1 bit ((rows fr).getD k 0))), .int (nI ((rows fr).getD k 0))]) (rest := []) ((c_X2_append l D cy rr rf rl rc rn sa ka va oa fi1 la1 co1 ne1 key tk cp (tg key t0 t1 bit ((rows fr).getD k 0)) ((rows fr).getD k 0) (rk rows (rows fr) key t0 t1 bit fr k) hR1 (tg_lt h0 h1) hg2.1 hg.1 (hRR.rk_free hrow _ (by rw [drop_succD hk2]; exact List.mem_cons_self))) H.size) (tq_cV (n := 2) C ml_X2_74 im_X2_append se_X2_append ini_X2 cd_X2_append ⟨by decide, by decide, by decide +kernel⟩ ⟨Nat.le_of_ble_eq_true rfl, Nat.le_of_ble_eq_true rfl⟩) ⟨tq_Pc.blind, va_recv hK hP (ci := 2) (q0 := 0) rfl rfl, tq_preC C hK hP hD⟩ rfl rfl hl.1 rfl (lv_room (Nat.le_of_ble_eq_true rfl)) dX2_deal_65 ⟨Nat.le_of_ble_eq_true rfl, Nat.le_of_ble_eq_true rfl⟩) hP hD hS hA [0, 1, 2, 3, 4, 5, 6] [] [0, 1, 2, 3, 4, 5, 6] rfl rfl (by decide) (by decide) (by decide) (fun _ => rfl) (fun u65 H locs hr65 hP hD hS => ?_)
        obtain ⟨fi2, la2, co2, ne2⟩ := u65
        dsimp only at hr65
        have hP : va_P D vwCl (wR cy rr rf rl rc rn sa ka va oa fi2 la2 co2 ne2 key tk cp) H := hP
        have hD : va_D A (wR cy rr rf rl rc rn sa ka va oa fi2 la2 co2 ne2 key tk cp) := hD
        refine lv_iload hx hb dX2_deal_68 (lv_at hl 0 rfl) ?_
        refine lv_istore (lv' := [(6, .int (nI ((rows fr).getD (k + 1) 0))), (8, .int (nI ((rows fr).getD (k + 1) 0))), (0, .ref (rr)), (1, .int (nI (fr))), (2, .int (nI (t0))), (3, .int (nI (t1))), (4, .int (nI (bit))), (5, .int (nI (co fr))), (7, .int (nI (k)))]) hx hb dX2_deal_70 hl (by decide) rfl (fun ls hl => ?_)
        refine lv_iinc (v := (nI (k + 1))) (lv' := [(7, .int (nI (k + 1))), (6, .int (nI ((rows fr).getD (k + 1) 0))), (8, .int (nI ((rows fr).getD (k + 1) 0))), (0, .ref (rr)), (1, .int (nI (fr))), (2, .int (nI (t0))), (3, .int (nI (t1))), (4, .int (nI (bit))), (5, .int (nI (co fr)))]) hx hb dX2_deal_72 hl (k := 8) rfl (tq_inc1 _) (by decide) rfl (fun ls hl => ?_)
        refine lv_goto (tgt := 22) hx hb dX2_deal_75 (by decide) ?_
        exact ih22 (k + 1) fi2 la2 co2 ne2 (by omega) (by omega) (hr65.1.congr (fun r _ => rk_step hk2 r)) (by
          have h8 := hCs
          rw [drop_succD hk2] at h8
          refine Cs_congr (fun e9 he9 => hr65.2 e9 (fun hm => ?_) (fun z => ?_)) h8.2
          · exact hRR.rk_free hrow e9 (by rw [drop_succD hk2]; exact List.mem_cons_of_mem _ he9) _ (tg_lt h0 h1) hm
          · have h7 := (hRR.1 fr hrow).2.2.2.2.2
            rw [← List.take_append_drop k (rows fr), drop_succD hk2, List.nodup_append, List.nodup_cons] at h7
            exact h7.2.1.1 (z ▸ he9)) _ _ hP hD hS _ (lv_sub hl [3, 4, 5, 6, 7, 8, 1, 0] rfl)
set_option maxHeartbeats 4000000 in
set_option maxRecDepth 100000 in
theorem c_X2_pour (l : Launch) (D : va_G) (cy : ClassId) (rr : Nat) (rf : Nat) (rl : Nat) (rc : Nat) (rn : Nat) (sa : Nat) (ka : Nat) (va : Nat) (oa : Nat) (fi : Nat → Nat) (la : Nat → Nat) (co : Nat → Nat) (ne : Nat → Nat) (key : Nat → Nat) (tk : Nat) (cp : Nat) (fr : Nat) (to : Nat) (rows : Nat → List Nat) (hRR : RR fi la co ne rows) (hkey : ∀ e, 1 ≤ e → e ≤ 120 → key e < 65536) (hrow : fr < 256) (h0 : to < 256) : tq_V (S := (Nat → Nat) × (Nat → Nat) × (Nat → Nat) × (Nat → Nat)) l yX2_pour cX2_pour 3 3 71 0 0 D cy (wR cy rr rf rl rc rn sa ka va oa fi la co ne key tk cp) [.ref (rr), .int (nI (fr)), .int (nI (to))] (fun u => RR u.1 u.2.1 u.2.2.1 u.2.2.2 (fun r => va_up rows fr [] r ++ if to = r then rows fr else [])) (fun u => (wR cy rr rf rl rc rn sa ka va oa u.1 u.2.1 u.2.2.1 u.2.2.2 key tk cp)) := by
  refine tq_V.mk (by decide) (Nat.le_of_ble_eq_true rfl) ?_
  intro p e s m args below meth c A C hin hP hK hD hS hA ls hl
  obtain ⟨hx, hb, hml, hown, hrt, hlk, hT⟩ := id C
  have hl : lv_has ls 3 [(0, .ref (rr)), (1, .int (nI (fr))), (2, .int (nI (to)))] := hl
  refine lv_aload_n hx hb dX2_pour_0 rfl (lv_at hl 0 rfl) ?_
  refine lv_iload_n hx hb dX2_pour_1 rfl (lv_at hl 1 rfl) ?_
  refine lv_iload_n hx hb dX2_pour_2 rfl (lv_at hl 2 rfl) ?_
  refine lv_iload_n hx hb dX2_pour_3 rfl (lv_at hl 2 rfl) ?_
  refine lv_iconst (v := nI 0) hx hb dX2_pour_4 (by decide) ?_
  refine tq_callV (W3 := fun u => (wR cy rr rf rl rc rn sa ka va oa u.1 u.2.1 u.2.2.1 u.2.2.2 key tk cp)) (wr := []) (va_runV C.fix (As := [.int (nI (fr)), .int (nI (to)), .int (nI (to)), .int (nI (0))]) (rest := []) ((c_X2_deal l D cy rr rf rl rc rn sa ka va oa fi la co ne key tk cp fr to to 0 rows hRR hkey hrow h0 h0 (by decide)) s.heap.size) (tq_cV (n := 4) C ml_X2_52 im_X2_deal se_X2_deal ini_X2 cd_X2_deal ⟨by decide, by decide, by decide +kernel⟩ ⟨Nat.le_of_ble_eq_true rfl, Nat.le_of_ble_eq_true rfl⟩) ⟨tq_Pc.blind, va_recv hK hP (ci := 2) (q0 := 0) rfl rfl, tq_preC C hK hP hD⟩ rfl rfl hl.1 rfl (lv_room (Nat.le_of_ble_eq_true rfl)) dX2_pour_5 ⟨Nat.le_of_ble_eq_true rfl, Nat.le_of_ble_eq_true rfl⟩) hP hD hS hA [0, 1, 2, 3, 4, 5, 6] [] [0, 1, 2, 3, 4, 5, 6] rfl rfl (by decide) (by decide) (by decide) (fun _ => rfl) (fun u5 H locs hr5 hP hD hS => ?_)
  obtain ⟨fi2, la2, co2, ne2⟩ := u5
  dsimp only at hr5
  have hP : va_P D vwCl (wR cy rr rf rl rc rn sa ka va oa fi2 la2 co2 ne2 key tk cp) H := hP
  have hD : va_D A (wR cy rr rf rl rc rn sa ka va oa fi2 la2 co2 ne2 key tk cp) := hD
  exact tq_vret C (fi2, la2, co2, ne2) hP hD hS (hr5.congr (fun r _ => by rw [pour_eq])) (Nat.le_of_ble_eq_true rfl) (Nat.le_of_ble_eq_true rfl) dX2_pour_8
set_option maxHeartbeats 4000000 in
set_option maxRecDepth 100000 in
theorem c_X2_emptyAllRows (l : Launch) (D : va_G) (cy : ClassId) (rr : Nat) (rf : Nat) (rl : Nat) (rc : Nat) (rn : Nat) (sa : Nat) (ka : Nat) (va : Nat) (oa : Nat) (fi : Nat → Nat) (la : Nat → Nat) (co : Nat → Nat) (ne : Nat → Nat) (key : Nat → Nat) (tk : Nat) (cp : Nat)   : tq_V (S := (Nat → Nat) × (Nat → Nat) × (Nat → Nat)) l yX2_emptyAllRows cX2_emptyAllRows 2 2 41 0 0 D cy (wR cy rr rf rl rc rn sa ka va oa fi la co ne key tk cp) [.ref (rr)] (fun u => RR u.1 u.2.1 u.2.2 ne (fun _ => [])) (fun u => (wR cy rr rf rl rc rn sa ka va oa u.1 u.2.1 u.2.2 ne key tk cp)) := by
  refine tq_V.mk (by decide) (Nat.le_of_ble_eq_true rfl) ?_
  intro p e s m args below meth c A C hin hP hK hD hS hA ls hl
  obtain ⟨hx, hb, hml, hown, hrt, hlk, hT⟩ := id C
  have hl : lv_has ls 2 [(0, .ref (rr))] := hl
  refine lv_iconst (v := nI 0) hx hb dX2_emptyAllRows_0 (by decide) ?_
  refine lv_istore_n (lv' := [(1, .int (nI (0))), (0, .ref (rr))]) hx hb dX2_emptyAllRows_1 rfl hl (by decide) rfl (fun ls hl => ?_)
  suffices hlp2 : ∀ (n2 : Nat) (i : Nat) (fi1 : Nat → Nat) (la1 : Nat → Nat) (co1 : Nat → Nat), 256 - i < n2 → (i ≤ 256) → (∀ r, r < i → fi1 r = 0 ∧ la1 r = 0 ∧ co1 r = 0) → ∀ (H : Heap) (locs : List Loc), va_P D vwCl (wR cy rr rf rl rc rn sa ka va oa fi1 la1 co1 ne key tk cp) H → va_D A (wR cy rr rf rl rc rn sa ka va oa fi1 la1 co1 ne key tk cp) → va_S A s.heap H locs → ∀ ls : Array Slot, lv_has ls 2 [(0, .ref (rr)), (1, .int (nI (i)))] → W p l e ({ frames := 2, cells := 0, slots := 0, locals := 41 } : Room) s m args below meth c H locs 0 0 (MQ below (va_Qv (S := (Nat → Nat) × (Nat → Nat) × (Nat → Nat)) (fun u => RR u.1 u.2.1 u.2.2 ne (fun _ => [])) (tq_B D A (fun u => (wR cy rr rf rl rc rn sa ka va oa u.1 u.2.1 u.2.2 ne key tk cp))) A) args s 0 0 A) (F0 m 2 ls []) from
    hlp2 257 0 fi la co (by omega) (by omega) (fun r hr => absurd hr (Nat.not_lt_zero _)) _ _ hP hD hS _ (lv_sub hl [1, 0] rfl)
  intro n2
  induction n2 with
  | zero => intro i fi1 la1 co1 hf; exact absurd hf (Nat.not_lt_zero _)
  | succ n2 ih2 =>
    intro i fi1 la1 co1 hf2 hi hz H locs hP hD hS ls hl
    refine lv_iload_n hx hb dX2_emptyAllRows_2 rfl (lv_at hl 1 rfl) ?_
    refine lv_sipush (v := nI 256) hx hb dX2_emptyAllRows_3 (by decide) ?_
    refine tq_icmp_ge (tgt := 20) C (by omega) (by omega) dX2_emptyAllRows_6 (by decide) (fun h6 => ?_) (fun h6 => ?_)
    · exact tq_vret C (fi1, la1, co1) hP hD hS (RR.zero (fun r hr => hz r (by omega))) (Nat.le_of_ble_eq_true rfl) (Nat.le_of_ble_eq_true rfl) dX2_emptyAllRows_20
    · refine lv_aload_n hx hb dX2_emptyAllRows_9 rfl (lv_at hl 0 rfl) ?_
      refine lv_iload_n hx hb dX2_emptyAllRows_10 rfl (lv_at hl 1 rfl) ?_
      refine tq_callV (W3 := fun u => (wR cy rr rf rl rc rn sa ka va oa (va_up fi1 i 0) (va_up la1 i 0) (va_up co1 i 0) ne key tk cp)) (wr := []) (va_runV C.fix (As := [.int (nI (i))]) (rest := []) ((c_X2_empty l D cy rr rf rl rc rn sa ka va oa fi1 la1 co1 ne key tk cp i h6) H.size) (tq_cV (n := 1) C ml_X2_59 im_X2_empty se_X2_empty ini_X2 cd_X2_empty ⟨by decide, by decide, by decide +kernel⟩ ⟨Nat.le_of_ble_eq_true rfl, Nat.le_of_ble_eq_true rfl⟩) ⟨tq_Pc.blind, va_recv hK hP (ci := 2) (q0 := 0) rfl rfl, tq_preC C hK hP hD⟩ rfl rfl hl.1 rfl (lv_room (Nat.le_of_ble_eq_true rfl)) dX2_emptyAllRows_11 ⟨Nat.le_of_ble_eq_true rfl, Nat.le_of_ble_eq_true rfl⟩) hP hD hS hA [0, 1, 2, 3, 4, 5, 6] [] [0, 1, 2, 3, 4, 5, 6] rfl rfl (by decide) (by decide) (by decide) (fun _ => rfl) (fun u11 H locs hr11 hP hD hS => ?_)
      have hP : va_P D vwCl (wR cy rr rf rl rc rn sa ka va oa (va_up fi1 i 0) (va_up la1 i 0) (va_up co1 i 0) ne key tk cp) H := hP
      have hD : va_D A (wR cy rr rf rl rc rn sa ka va oa (va_up fi1 i 0) (va_up la1 i 0) (va_up co1 i 0) ne key tk cp) := hD
      refine lv_iinc (v := (nI (i + 1))) (lv' := [(1, .int (nI (i + 1))), (0, .ref (rr))]) hx hb dX2_emptyAllRows_14 hl (k := 1) rfl (tq_inc1 _) (by decide) rfl (fun ls hl => ?_)
      refine lv_goto (tgt := 2) hx hb dX2_emptyAllRows_17 (by decide) ?_
      exact ih2 (i + 1) (va_up fi1 i 0) (va_up la1 i 0) (va_up co1 i 0) (by omega) (by omega) (fun r hr => (by
        by_cases q : r = i
        · subst q; exact ⟨up_s _ _ _, up_s _ _ _, up_s _ _ _⟩
        · rw [up_n _ _ q, up_n _ _ q, up_n _ _ q]; exact hz r (by omega))) _ _ hP hD hS _ (lv_sub hl [1, 0] rfl)
end
section

/-- the store's own order: entries each once, those in use first, by rising keys -/
def SO (key val ord : Nat → Nat) (tk : Nat) : Prop :=
  tk ≤ 120 ∧ (∀ i, i < 120 → 1 ≤ ord i ∧ ord i ≤ 120) ∧ (∀ i j, i < 120 → j < 120 → ord i = ord j → i = j) ∧ (∀ i j, i < j → j < tk → key (ord i) < key (ord j)) ∧ ∀ e, key e < 65536 ∧ val e < 1000000

theorem dX3_valueOf_0 : decode cX3_valueOf 0 = .ok (.iload_n 1, 1) := by decide +kernel
theorem dX3_valueOf_1 : decode cX3_valueOf 1 = .ok (.invokestatic 28, 3) := by decide +kernel
theorem dX3_valueOf_4 : decode cX3_valueOf 4 = .ok (.ifCond .eq 12, 3) := by decide +kernel
theorem dX3_valueOf_7 : decode cX3_valueOf 7 = .ok (.aload_n 0, 1) := by decide +kernel
theorem dX3_valueOf_8 : decode cX3_valueOf 8 = .ok (.getfield 15, 3) := by decide +kernel
theorem dX3_valueOf_11 : decode cX3_valueOf 11 = .ok (.iload_n 1, 1) := by decide +kernel
theorem dX3_valueOf_12 : decode cX3_valueOf 12 = .ok (.iaload, 1) := by decide +kernel
theorem dX3_valueOf_13 : decode cX3_valueOf 13 = .ok (.goto 4, 3) := by decide +kernel
theorem dX3_valueOf_16 : decode cX3_valueOf 16 = .ok (.iconst 0, 1) := by decide +kernel
theorem dX3_valueOf_17 : decode cX3_valueOf 17 = .ok (.ireturn, 1) := by decide +kernel
theorem dX3_replaceValue_0 : decode cX3_replaceValue 0 = .ok (.aload_n 0, 1) := by decide +kernel
theorem dX3_replaceValue_1 : decode cX3_replaceValue 1 = .ok (.iload_n 1, 1) := by decide +kernel
theorem dX3_replaceValue_2 : decode cX3_replaceValue 2 = .ok (.invokevirtual 32, 3) := by decide +kernel
theorem dX3_replaceValue_5 : decode cX3_replaceValue 5 = .ok (.istore_n 3, 1) := by decide +kernel
theorem dX3_replaceValue_6 : decode cX3_replaceValue 6 = .ok (.iload_n 1, 1) := by decide +kernel
theorem dX3_replaceValue_7 : decode cX3_replaceValue 7 = .ok (.invokestatic 28, 3) := by decide +kernel
theorem dX3_replaceValue_10 : decode cX3_replaceValue 10 = .ok (.ifCond .eq 10, 3) := by decide +kernel
theorem dX3_replaceValue_13 : decode cX3_replaceValue 13 = .ok (.aload_n 0, 1) := by decide +kernel
theorem dX3_replaceValue_14 : decode cX3_replaceValue 14 = .ok (.getfield 15, 3) := by decide +kernel
theorem dX3_replaceValue_17 : decode cX3_replaceValue 17 = .ok (.iload_n 1, 1) := by decide +kernel
theorem dX3_replaceValue_18 : decode cX3_replaceValue 18 = .ok (.iload_n 2, 1) := by decide +kernel
theorem dX3_replaceValue_19 : decode cX3_replaceValue 19 = .ok (.iastore, 1) := by decide +kernel
theorem dX3_replaceValue_20 : decode cX3_replaceValue 20 = .ok (.iload_n 3, 1) := by decide +kernel
theorem dX3_replaceValue_21 : decode cX3_replaceValue 21 = .ok (.ireturn, 1) := by decide +kernel
theorem dX3_takeAgain_0 : decode cX3_takeAgain 0 = .ok (.aload_n 0, 1) := by decide +kernel
theorem dX3_takeAgain_1 : decode cX3_takeAgain 1 = .ok (.getfield 21, 3) := by decide +kernel
theorem dX3_takeAgain_4 : decode cX3_takeAgain 4 = .ok (.ifCond .lt 12, 3) := by decide +kernel
theorem dX3_takeAgain_7 : decode cX3_takeAgain 7 = .ok (.aload_n 0, 1) := by decide +kernel
theorem dX3_takeAgain_8 : decode cX3_takeAgain 8 = .ok (.getfield 21, 3) := by decide +kernel
theorem dX3_takeAgain_11 : decode cX3_takeAgain 11 = .ok (.bipush 120, 2) := by decide +kernel
theorem dX3_takeAgain_13 : decode cX3_takeAgain 13 = .ok (.if_icmp .lt 5, 3) := by decide +kernel
theorem dX3_takeAgain_16 : decode cX3_takeAgain 16 = .ok (.iconst 0, 1) := by decide +kernel
theorem dX3_takeAgain_17 : decode cX3_takeAgain 17 = .ok (.ireturn, 1) := by decide +kernel
theorem dX3_takeAgain_18 : decode cX3_takeAgain 18 = .ok (.aload_n 0, 1) := by decide +kernel
theorem dX3_takeAgain_19 : decode cX3_takeAgain 19 = .ok (.getfield 18, 3) := by decide +kernel
theorem dX3_takeAgain_22 : decode cX3_takeAgain 22 = .ok (.aload_n 0, 1) := by decide +kernel
theorem dX3_takeAgain_23 : decode cX3_takeAgain 23 = .ok (.getfield 21, 3) := by decide +kernel
theorem dX3_takeAgain_26 : decode cX3_takeAgain 26 = .ok (.iaload, 1) := by decide +kernel
theorem dX3_takeAgain_27 : decode cX3_takeAgain 27 = .ok (.istore_n 1, 1) := by decide +kernel
theorem dX3_takeAgain_28 : decode cX3_takeAgain 28 = .ok (.aload_n 0, 1) := by decide +kernel
theorem dX3_takeAgain_29 : decode cX3_takeAgain 29 = .ok (.dup, 1) := by decide +kernel
theorem dX3_takeAgain_30 : decode cX3_takeAgain 30 = .ok (.getfield 21, 3) := by decide +kernel
theorem dX3_takeAgain_33 : decode cX3_takeAgain 33 = .ok (.iconst 1, 1) := by decide +kernel
theorem dX3_takeAgain_34 : decode cX3_takeAgain 34 = .ok (.iadd, 1) := by decide +kernel
theorem dX3_takeAgain_35 : decode cX3_takeAgain 35 = .ok (.putfield 21, 3) := by decide +kernel
theorem dX3_takeAgain_38 : decode cX3_takeAgain 38 = .ok (.iload_n 1, 1) := by decide +kernel
theorem dX3_takeAgain_39 : decode cX3_takeAgain 39 = .ok (.ireturn, 1) := by decide +kernel
theorem dX3_releaseAll_0 : decode cX3_releaseAll 0 = .ok (.aload_n 0, 1) := by decide +kernel
theorem dX3_releaseAll_1 : decode cX3_releaseAll 1 = .ok (.iconst 0, 1) := by decide +kernel
theorem dX3_releaseAll_2 : decode cX3_releaseAll 2 = .ok (.putfield 21, 3) := by decide +kernel
theorem dX3_releaseAll_5 : decode cX3_releaseAll 5 = .ok (.return_, 1) := by decide +kernel
theorem dX3_take_0 : decode cX3_take 0 = .ok (.aload_n 0, 1) := by decide +kernel
theorem dX3_take_1 : decode cX3_take 1 = .ok (.getfield 21, 3) := by decide +kernel
theorem dX3_take_4 : decode cX3_take 4 = .ok (.ifCond .lt 12, 3) := by decide +kernel
theorem dX3_take_7 : decode cX3_take 7 = .ok (.aload_n 0, 1) := by decide +kernel
theorem dX3_take_8 : decode cX3_take 8 = .ok (.getfield 21, 3) := by decide +kernel
theorem dX3_take_11 : decode cX3_take 11 = .ok (.bipush 120, 2) := by decide +kernel
theorem dX3_take_13 : decode cX3_take 13 = .ok (.if_icmp .lt 5, 3) := by decide +kernel
theorem dX3_take_16 : decode cX3_take 16 = .ok (.iconst 0, 1) := by decide +kernel
theorem dX3_take_17 : decode cX3_take 17 = .ok (.ireturn, 1) := by decide +kernel
theorem dX3_take_18 : decode cX3_take 18 = .ok (.aload_n 0, 1) := by decide +kernel
theorem dX3_take_19 : decode cX3_take 19 = .ok (.getfield 18, 3) := by decide +kernel
theorem dX3_take_22 : decode cX3_take 22 = .ok (.aload_n 0, 1) := by decide +kernel
theorem dX3_take_23 : decode cX3_take 23 = .ok (.getfield 21, 3) := by decide +kernel
theorem dX3_take_26 : decode cX3_take 26 = .ok (.iaload, 1) := by decide +kernel
theorem dX3_take_27 : decode cX3_take 27 = .ok (.istore_n 3, 1) := by decide +kernel
theorem dX3_take_28 : decode cX3_take 28 = .ok (.iload_n 3, 1) := by decide +kernel
theorem dX3_take_29 : decode cX3_take 29 = .ok (.invokestatic 28, 3) := by decide +kernel
theorem dX3_take_32 : decode cX3_take 32 = .ok (.ifCond .ne 5, 3) := by decide +kernel
theorem dX3_take_35 : decode cX3_take 35 = .ok (.iconst 0, 1) := by decide +kernel
theorem dX3_take_36 : decode cX3_take 36 = .ok (.ireturn, 1) := by decide +kernel
theorem dX3_take_37 : decode cX3_take 37 = .ok (.aload_n 0, 1) := by decide +kernel
theorem dX3_take_38 : decode cX3_take 38 = .ok (.getfield 9, 3) := by decide +kernel
theorem dX3_take_41 : decode cX3_take 41 = .ok (.iload_n 3, 1) := by decide +kernel
theorem dX3_take_42 : decode cX3_take 42 = .ok (.iload_n 1, 1) := by decide +kernel
theorem dX3_take_43 : decode cX3_take 43 = .ok (.iastore, 1) := by decide +kernel
theorem dX3_take_44 : decode cX3_take 44 = .ok (.aload_n 0, 1) := by decide +kernel
theorem dX3_take_45 : decode cX3_take 45 = .ok (.getfield 15, 3) := by decide +kernel
theorem dX3_take_48 : decode cX3_take 48 = .ok (.iload_n 3, 1) := by decide +kernel
theorem dX3_take_49 : decode cX3_take 49 = .ok (.iload_n 2, 1) := by decide +kernel
theorem dX3_take_50 : decode cX3_take 50 = .ok (.iastore, 1) := by decide +kernel
theorem dX3_take_51 : decode cX3_take 51 = .ok (.aload_n 0, 1) := by decide +kernel
theorem dX3_take_52 : decode cX3_take 52 = .ok (.getfield 21, 3) := by decide +kernel
theorem dX3_take_55 : decode cX3_take 55 = .ok (.istore 4, 2) := by decide +kernel
theorem dX3_take_57 : decode cX3_take 57 = .ok (.iload 4, 2) := by decide +kernel
theorem dX3_take_59 : decode cX3_take 59 = .ok (.ifCond .le 42, 3) := by decide +kernel
theorem dX3_take_62 : decode cX3_take 62 = .ok (.aload_n 0, 1) := by decide +kernel
theorem dX3_take_63 : decode cX3_take 63 = .ok (.aload_n 0, 1) := by decide +kernel
theorem dX3_take_64 : decode cX3_take 64 = .ok (.getfield 18, 3) := by decide +kernel
theorem dX3_take_67 : decode cX3_take 67 = .ok (.iload 4, 2) := by decide +kernel
theorem dX3_take_69 : decode cX3_take 69 = .ok (.iconst 1, 1) := by decide +kernel
theorem dX3_take_70 : decode cX3_take 70 = .ok (.isub, 1) := by decide +kernel
theorem dX3_take_71 : decode cX3_take 71 = .ok (.iaload, 1) := by decide +kernel
theorem dX3_take_72 : decode cX3_take 72 = .ok (.invokevirtual 36, 3) := by decide +kernel
theorem dX3_take_75 : decode cX3_take 75 = .ok (.iload_n 1, 1) := by decide +kernel
theorem dX3_take_76 : decode cX3_take 76 = .ok (.if_icmp .le 25, 3) := by decide +kernel
theorem dX3_take_79 : decode cX3_take 79 = .ok (.aload_n 0, 1) := by decide +kernel
theorem dX3_take_80 : decode cX3_take 80 = .ok (.getfield 18, 3) := by decide +kernel
theorem dX3_take_83 : decode cX3_take 83 = .ok (.iload 4, 2) := by decide +kernel
theorem dX3_take_85 : decode cX3_take 85 = .ok (.aload_n 0, 1) := by decide +kernel
theorem dX3_take_86 : decode cX3_take 86 = .ok (.getfield 18, 3) := by decide +kernel
theorem dX3_take_89 : decode cX3_take 89 = .ok (.iload 4, 2) := by decide +kernel
theorem dX3_take_91 : decode cX3_take 91 = .ok (.iconst 1, 1) := by decide +kernel
theorem dX3_take_92 : decode cX3_take 92 = .ok (.isub, 1) := by decide +kernel
theorem dX3_take_93 : decode cX3_take 93 = .ok (.iaload, 1) := by decide +kernel
theorem dX3_take_94 : decode cX3_take 94 = .ok (.iastore, 1) := by decide +kernel
theorem dX3_take_95 : decode cX3_take 95 = .ok (.iinc 4 (-1), 3) := by decide +kernel
theorem dX3_take_98 : decode cX3_take 98 = .ok (.goto (-41), 3) := by decide +kernel
theorem dX3_take_101 : decode cX3_take 101 = .ok (.aload_n 0, 1) := by decide +kernel
theorem dX3_take_102 : decode cX3_take 102 = .ok (.getfield 18, 3) := by decide +kernel
theorem dX3_take_105 : decode cX3_take 105 = .ok (.iload 4, 2) := by decide +kernel
theorem dX3_take_107 : decode cX3_take 107 = .ok (.iload_n 3, 1) := by decide +kernel
theorem dX3_take_108 : decode cX3_take 108 = .ok (.iastore, 1) := by decide +kernel
theorem dX3_take_109 : decode cX3_take 109 = .ok (.aload_n 0, 1) := by decide +kernel
theorem dX3_take_110 : decode cX3_take 110 = .ok (.dup, 1) := by decide +kernel
theorem dX3_take_111 : decode cX3_take 111 = .ok (.getfield 21, 3) := by decide +kernel
theorem dX3_take_114 : decode cX3_take 114 = .ok (.iconst 1, 1) := by decide +kernel
theorem dX3_take_115 : decode cX3_take 115 = .ok (.iadd, 1) := by decide +kernel
theorem dX3_take_116 : decode cX3_take 116 = .ok (.putfield 21, 3) := by decide +kernel
theorem dX3_take_119 : decode cX3_take 119 = .ok (.iload_n 3, 1) := by decide +kernel
theorem dX3_take_120 : decode cX3_take 120 = .ok (.ireturn, 1) := by decide +kernel
theorem dX3_release_0 : decode cX3_release 0 = .ok (.aload_n 0, 1) := by decide +kernel
theorem dX3_release_1 : decode cX3_release 1 = .ok (.getfield 21, 3) := by decide +kernel
theorem dX3_release_4 : decode cX3_release 4 = .ok (.iconst 1, 1) := by decide +kernel
theorem dX3_release_5 : decode cX3_release 5 = .ok (.isub, 1) := by decide +kernel
theorem dX3_release_6 : decode cX3_release 6 = .ok (.istore_n 2, 1) := by decide +kernel
theorem dX3_release_7 : decode cX3_release 7 = .ok (.iload_n 2, 1) := by decide +kernel
theorem dX3_release_8 : decode cX3_release 8 = .ok (.ifCond .lt 9, 3) := by decide +kernel
theorem dX3_release_11 : decode cX3_release 11 = .ok (.iload_n 2, 1) := by decide +kernel
theorem dX3_release_12 : decode cX3_release 12 = .ok (.bipush 120, 2) := by decide +kernel
theorem dX3_release_14 : decode cX3_release 14 = .ok (.if_icmp .lt 4, 3) := by decide +kernel
theorem dX3_release_17 : decode cX3_release 17 = .ok (.return_, 1) := by decide +kernel
theorem dX3_release_18 : decode cX3_release 18 = .ok (.iconst 0, 1) := by decide +kernel
theorem dX3_release_19 : decode cX3_release 19 = .ok (.istore_n 3, 1) := by decide +kernel
theorem dX3_release_20 : decode cX3_release 20 = .ok (.iload_n 3, 1) := by decide +kernel
theorem dX3_release_21 : decode cX3_release 21 = .ok (.iload_n 2, 1) := by decide +kernel
theorem dX3_release_22 : decode cX3_release 22 = .ok (.if_icmp .ge 19, 3) := by decide +kernel
theorem dX3_release_25 : decode cX3_release 25 = .ok (.aload_n 0, 1) := by decide +kernel
theorem dX3_release_26 : decode cX3_release 26 = .ok (.getfield 18, 3) := by decide +kernel
theorem dX3_release_29 : decode cX3_release 29 = .ok (.iload_n 3, 1) := by decide +kernel
theorem dX3_release_30 : decode cX3_release 30 = .ok (.iaload, 1) := by decide +kernel
theorem dX3_release_31 : decode cX3_release 31 = .ok (.iload_n 1, 1) := by decide +kernel
theorem dX3_release_32 : decode cX3_release 32 = .ok (.if_icmp .eq 9, 3) := by decide +kernel
theorem dX3_release_35 : decode cX3_release 35 = .ok (.iinc 3 1, 3) := by decide +kernel
theorem dX3_release_38 : decode cX3_release 38 = .ok (.goto (-18), 3) := by decide +kernel
theorem dX3_release_41 : decode cX3_release 41 = .ok (.iload_n 3, 1) := by decide +kernel
theorem dX3_release_42 : decode cX3_release 42 = .ok (.iload_n 2, 1) := by decide +kernel
theorem dX3_release_43 : decode cX3_release 43 = .ok (.if_icmp .ge 23, 3) := by decide +kernel
theorem dX3_release_46 : decode cX3_release 46 = .ok (.aload_n 0, 1) := by decide +kernel
theorem dX3_release_47 : decode cX3_release 47 = .ok (.getfield 18, 3) := by decide +kernel
theorem dX3_release_50 : decode cX3_release 50 = .ok (.iload_n 3, 1) := by decide +kernel
theorem dX3_release_51 : decode cX3_release 51 = .ok (.aload_n 0, 1) := by decide +kernel
theorem dX3_release_52 : decode cX3_release 52 = .ok (.getfield 18, 3) := by decide +kernel
theorem dX3_release_55 : decode cX3_release 55 = .ok (.iload_n 3, 1) := by decide +kernel
theorem dX3_release_56 : decode cX3_release 56 = .ok (.iconst 1, 1) := by decide +kernel
theorem dX3_release_57 : decode cX3_release 57 = .ok (.iadd, 1) := by decide +kernel
theorem dX3_release_58 : decode cX3_release 58 = .ok (.iaload, 1) := by decide +kernel
theorem dX3_release_59 : decode cX3_release 59 = .ok (.iastore, 1) := by decide +kernel
theorem dX3_release_60 : decode cX3_release 60 = .ok (.iinc 3 1, 3) := by decide +kernel
theorem dX3_release_63 : decode cX3_release 63 = .ok (.goto (-22), 3) := by decide +kernel
theorem dX3_release_66 : decode cX3_release 66 = .ok (.aload_n 0, 1) := by decide +kernel
theorem dX3_release_67 : decode cX3_release 67 = .ok (.getfield 18, 3) := by decide +kernel
theorem dX3_release_70 : decode cX3_release 70 = .ok (.iload_n 2, 1) := by decide +kernel
theorem dX3_release_71 : decode cX3_release 71 = .ok (.iload_n 1, 1) := by decide +kernel
theorem dX3_release_72 : decode cX3_release 72 = .ok (.iastore, 1) := by decide +kernel
theorem dX3_release_73 : decode cX3_release 73 = .ok (.aload_n 0, 1) := by decide +kernel
theorem dX3_release_74 : decode cX3_release 74 = .ok (.iload_n 2, 1) := by decide +kernel
theorem dX3_release_75 : decode cX3_release 75 = .ok (.putfield 21, 3) := by decide +kernel
theorem dX3_release_78 : decode cX3_release 78 = .ok (.return_, 1) := by decide +kernel
set_option maxHeartbeats 4000000 in
set_option maxRecDepth 100000 in
theorem c_X3_valueOf (l : Launch) (D : va_G) (cy : ClassId) (a : Nat → Nat) (key : Nat → Nat) (val : Nat → Nat) (ord : Nat → Nat) (tk : Nat) (cp : Nat) (efi : Nat → Nat) (ela : Nat → Nat) (eco : Nat → Nat) (ene : Nat → Nat) (ldp : Nat → Nat) (dp : Nat) (dbl : Int32) (hlv : Int32) (spl : Int32) (mrg : Int32) (lfi : Nat → Nat) (lla : Nat → Nat) (lco : Nat → Nat) (lne : Nat → Nat) (lev : Nat) (ptr : Nat) (llo : Nat) (lhi : Nat) (lsp : Int32) (en : Nat) (h1 : 1 ≤ en) (h2 : en ≤ 120) : tq_F l yX3_valueOf cX3_valueOf 2 (some .int) 1 20 D cy (wC cy a key val ord tk cp efi ela eco ene ldp dp dbl hlv spl mrg lfi lla lco lne lev ptr llo lhi lsp) [.ref (a 1), .int (nI (en))] (fun r => r = (nI (val en))) := by
  refine tq_F.mk (by decide) (Nat.le_of_ble_eq_true rfl) ?_
  intro p e s m args below meth c C hP hK ls hl
  obtain ⟨hx, hb, hml, hown, hrt, hlk, hT⟩ := id C
  have hl : lv_has ls 2 [(0, .ref (a 1)), (1, .int (nI (en)))] := hl
  refine lv_iload_n hx hb dX3_valueOf_0 rfl (lv_at hl 1 rfl) ?_
  refine tq_callF (va_runSN C.fix (As := [.int (nI (en))]) (rest := []) (c_X4_isEntry l D cy en h1 h2) (tq_cN (n := 1) C mn_X3_28 sm_X4_isEntry ini_X4 cd_X4_isEntry ⟨by decide, by decide, by decide +kernel⟩ ⟨Nat.le_of_ble_eq_true rfl, Nat.le_of_ble_eq_true rfl⟩) ⟨tq_Pf.blind, tq_preF C hK (hP.sub [] rfl)⟩ rfl rfl hl.1 rfl (lv_room (Nat.le_of_ble_eq_true rfl)) dX3_valueOf_1 ⟨Nat.le_of_ble_eq_true rfl, Nat.le_of_ble_eq_true rfl⟩) (fun r1 hr1 => ?_)
  obtain rfl := hr1
  refine lv_if_eq (tgt := 16) hx hb dX3_valueOf_4 (by decide) (fun h9 => absurd h9 (by decide)) (fun _ => ?_)
  refine lv_aload_n hx hb dX3_valueOf_7 rfl (lv_at hl 0 rfl) ?_
  refine tq_get (C0 := RX3) (T := TX3) (N := 5) (ci := 3) (k := 1) C gX3 inX3 rfl (by decide) rfl fl_X3_15 hK hP 1 rfl rfl dX3_valueOf_8 ?_
  refine lv_iload_n hx hb dX3_valueOf_11 rfl (lv_at hl 1 rfl) ?_
  refine tq_iald (n := 121) (i := en) (f := val) C hK hP 5 0 rfl rfl (by omega) (Nat.le_of_ble_eq_true rfl) dX3_valueOf_12 ?_
  refine lv_goto (tgt := 17) hx hb dX3_valueOf_13 (by decide) ?_
  exact tq_fret (v := (nI (val en))) C rfl (rfl) dX3_valueOf_17
set_option maxHeartbeats 4000000 in
set_option maxRecDepth 100000 in
theorem c_X3_replaceValue (l : Launch) (D : va_G) (cy : ClassId) (a : Nat → Nat) (key : Nat → Nat) (val : Nat → Nat) (ord : Nat → Nat) (tk : Nat) (cp : Nat) (efi : Nat → Nat) (ela : Nat → Nat) (eco : Nat → Nat) (ene : Nat → Nat) (ldp : Nat → Nat) (dp : Nat) (dbl : Int32) (hlv : Int32) (spl : Int32) (mrg : Int32) (lfi : Nat → Nat) (lla : Nat → Nat) (lco : Nat → Nat) (lne : Nat → Nat) (lev : Nat) (ptr : Nat) (llo : Nat) (lhi : Nat) (lsp : Int32) (en : Nat) (vx : Nat) (h1 : 1 ≤ en) (h2 : en ≤ 120) : tq_I (S := Unit) l yX3_replaceValue cX3_replaceValue 4 (some .int) 2 41 0 0 D cy (wC cy a key val ord tk cp efi ela eco ene ldp dp dbl hlv spl mrg lfi lla lco lne lev ptr llo lhi lsp) [.ref (a 1), .int (nI (en)), .int (nI (vx))] (fun r _ => r = (nI (val en))) (fun u => (wC cy a key (va_up val en vx) ord tk cp efi ela eco ene ldp dp dbl hlv spl mrg lfi lla lco lne lev ptr llo lhi lsp)) := by
  refine tq_I.mk (by decide) (Nat.le_of_ble_eq_true rfl) ?_
  intro p e s m args below meth c A C hP hK hD hS hA ls hl
  obtain ⟨hx, hb, hml, hown, hrt, hlk, hT⟩ := id C
  have hl : lv_has ls 4 [(0, .ref (a 1)), (1, .int (nI (en))), (2, .int (nI (vx)))] := hl
  refine lv_aload_n hx hb dX3_replaceValue_0 rfl (lv_at hl 0 rfl) ?_
  refine lv_iload_n hx hb dX3_replaceValue_1 rfl (lv_at hl 1 rfl) ?_
  refine tq_callF (va_runV C.fix (As := [.int (nI (en))]) (rest := []) (c_X3_valueOf l D cy a key val ord tk cp efi ela eco ene ldp dp dbl hlv spl mrg lfi lla lco lne lev ptr llo lhi lsp en h1 h2) (tq_cV (n := 1) C ml_X3_32 im_X3_valueOf se_X3_valueOf ini_X3 cd_X3_valueOf ⟨by decide, by decide, by decide +kernel⟩ ⟨Nat.le_of_ble_eq_true rfl, Nat.le_of_ble_eq_true rfl⟩) ⟨tq_Pf.blind, va_recv hK hP (ci := 3) (q0 := 1) rfl rfl, tq_preF C hK hP⟩ rfl rfl hl.1 rfl (lv_room (Nat.le_of_ble_eq_true rfl)) dX3_replaceValue_2 ⟨Nat.le_of_ble_eq_true rfl, Nat.le_of_ble_eq_true rfl⟩) (fun r2 hr2 => ?_)
  obtain rfl := hr2
  refine lv_istore_n (lv' := [(3, .int (nI (val en))), (0, .ref (a 1)), (1, .int (nI (en))), (2, .int (nI (vx)))]) hx hb dX3_replaceValue_5 rfl hl (by decide) rfl (fun ls hl => ?_)
  refine lv_iload_n hx hb dX3_replaceValue_6 rfl (lv_at hl 2 rfl) ?_
  refine tq_callF (va_runSN C.fix (As := [.int (nI (en))]) (rest := []) (c_X4_isEntry l D cy en h1 h2) (tq_cN (n := 1) C mn_X3_28 sm_X4_isEntry ini_X4 cd_X4_isEntry ⟨by decide, by decide, by decide +kernel⟩ ⟨Nat.le_of_ble_eq_true rfl, Nat.le_of_ble_eq_true rfl⟩) ⟨tq_Pf.blind, tq_preF C hK (hP.sub [] rfl)⟩ rfl rfl hl.1 rfl (lv_room (Nat.le_of_ble_eq_true rfl)) dX3_replaceValue_7 ⟨Nat.le_of_ble_eq_true rfl, Nat.le_of_ble_eq_true rfl⟩) (fun r7 hr7 => ?_)
  obtain rfl := hr7
  refine lv_if_eq (tgt := 20) hx hb dX3_replaceValue_10 (by decide) (fun h9 => absurd h9 (by decide)) (fun _ => ?_)
  refine lv_aload_n hx hb dX3_replaceValue_13 rfl (lv_at hl 1 rfl) ?_
  refine tq_get (C0 := RX3) (T := TX3) (N := 5) (ci := 3) (k := 1) C gX3 inX3 rfl (by decide) rfl fl_X3_15 hK hP 1 rfl rfl dX3_replaceValue_14 ?_
  refine lv_iload_n hx hb dX3_replaceValue_17 rfl (lv_at hl 2 rfl) ?_
  refine lv_iload_n hx hb dX3_replaceValue_18 rfl (lv_at hl 3 rfl) ?_
  refine tq_iast (n := 121) (i := en) (v := vx) (f := val) C hK hP hD hS 5 0 rfl rfl (by omega) (Nat.le_of_ble_eq_true rfl) dX3_replaceValue_19 (fun H locs hP hD hS => ?_)
  have hP : va_P D vwCl (wC cy a key (va_up val en vx) ord tk cp efi ela eco ene ldp dp dbl hlv spl mrg lfi lla lco lne lev ptr llo lhi lsp) H := hP
  have hD : va_D A (wC cy a key (va_up val en vx) ord tk cp efi ela eco ene ldp dp dbl hlv spl mrg lfi lla lco lne lev ptr llo lhi lsp) := hD
  refine lv_iload_n hx hb dX3_replaceValue_20 rfl (lv_at hl 0 rfl) ?_
  exact tq_iret (v := (nI (val en))) C rfl () hP hD hS (rfl) (Nat.le_of_ble_eq_true rfl) (Nat.le_of_ble_eq_true rfl) dX3_replaceValue_21
set_option maxHeartbeats 4000000 in
set_option maxRecDepth 100000 in
theorem c_X3_takeAgain (l : Launch) (D : va_G) (cy : ClassId) (a : Nat → Nat) (key : Nat → Nat) (val : Nat → Nat) (ord : Nat → Nat) (tk : Nat) (cp : Nat) (efi : Nat → Nat) (ela : Nat → Nat) (eco : Nat → Nat) (ene : Nat → Nat) (ldp : Nat → Nat) (dp : Nat) (dbl : Int32) (hlv : Int32) (spl : Int32) (mrg : Int32) (lfi : Nat → Nat) (lla : Nat → Nat) (lco : Nat → Nat) (lne : Nat → Nat) (lev : Nat) (ptr : Nat) (llo : Nat) (lhi : Nat) (lsp : Int32)  (htk : tk < 120) : tq_I (S := Unit) l yX3_takeAgain cX3_takeAgain 2 (some .int) 0 0 0 0 D cy (wC cy a key val ord tk cp efi ela eco ene ldp dp dbl hlv spl mrg lfi lla lco lne lev ptr llo lhi lsp) [.ref (a 1)] (fun r _ => r = (nI (ord tk))) (fun u => (wC cy a key val ord (tk + 1) cp efi ela eco ene ldp dp dbl hlv spl mrg lfi lla lco lne lev ptr llo lhi lsp)) := by
  refine tq_I.mk (by decide) (Nat.le_of_ble_eq_true rfl) ?_
  intro p e s m args below meth c A C hP hK hD hS hA ls hl
  obtain ⟨hx, hb, hml, hown, hrt, hlk, hT⟩ := id C
  have hl : lv_has ls 2 [(0, .ref (a 1))] := hl
  refine lv_aload_n hx hb dX3_takeAgain_0 rfl (lv_at hl 0 rfl) ?_
  refine tq_get (C0 := RX3) (T := TX3) (N := 5) (ci := 3) (k := 3) C gX3 inX3 rfl (by decide) rfl fl_X3_21 hK hP 1 rfl rfl dX3_takeAgain_1 ?_
  refine tq_if_lt (tgt := 16) C (by omega) dX3_takeAgain_4 (by decide) ?_
  refine lv_aload_n hx hb dX3_takeAgain_7 rfl (lv_at hl 0 rfl) ?_
  refine tq_get (C0 := RX3) (T := TX3) (N := 5) (ci := 3) (k := 3) C gX3 inX3 rfl (by decide) rfl fl_X3_21 hK hP 1 rfl rfl dX3_takeAgain_8 ?_
  refine lv_bipush (v := nI 120) hx hb dX3_takeAgain_11 (by decide) ?_
  refine tq_icmp_lt (tgt := 18) C (by omega) (by omega) dX3_takeAgain_13 (by decide) (fun h13 => ?_) (fun h13 => ?_)
  · refine lv_aload_n hx hb dX3_takeAgain_18 rfl (lv_at hl 0 rfl) ?_
    refine tq_get (C0 := RX3) (T := TX3) (N := 5) (ci := 3) (k := 2) C gX3 inX3 rfl (by decide) rfl fl_X3_18 hK hP 1 rfl rfl dX3_takeAgain_19 ?_
    refine lv_aload_n hx hb dX3_takeAgain_22 rfl (lv_at hl 0 rfl) ?_
    refine tq_get (C0 := RX3) (T := TX3) (N := 5) (ci := 3) (k := 3) C gX3 inX3 rfl (by decide) rfl fl_X3_21 hK hP 1 rfl rfl dX3_takeAgain_23 ?_
    refine tq_iald (n := 120) (i := tk) (f := ord) C hK hP 6 0 rfl rfl (by omega) (Nat.le_of_ble_eq_true rfl) dX3_takeAgain_26 ?_
    refine lv_istore_n (lv' := [(1, .int (nI (ord tk))), (0, .ref (a 1))]) hx hb dX3_takeAgain_27 rfl hl (by decide) rfl (fun ls hl => ?_)
    refine lv_aload_n hx hb dX3_takeAgain_28 rfl (lv_at hl 1 rfl) ?_
    refine lv_dup hx hb dX3_takeAgain_29 rfl ?_
    refine tq_get (C0 := RX3) (T := TX3) (N := 5) (ci := 3) (k := 3) C gX3 inX3 rfl (by decide) rfl fl_X3_21 hK hP 1 rfl rfl dX3_takeAgain_30 ?_
    refine lv_iconst (v := nI 1) hx hb dX3_takeAgain_33 (by decide) ?_
    refine tq_iadd C dX3_takeAgain_34 ?_
    refine tq_put (v := .int (nI (tk + 1))) (C0 := RX3) (T := TX3) (N := 5) (ci := 3) (k := 3) (ty := .int) C gX3 inX3 tyX3_ok nmX3 rfl (by decide) rfl fl_X3_21 rfl (by decide +kernel) hK hP hD hS 1 rfl rfl rfl (Nat.le_of_ble_eq_true rfl) dX3_takeAgain_35 (fun H locs hP hD hS => ?_)
    have hP : va_P D vwCl (wC cy a key val ord (tk + 1) cp efi ela eco ene ldp dp dbl hlv spl mrg lfi lla lco lne lev ptr llo lhi lsp) H := hP
    have hD : va_D A (wC cy a key val ord (tk + 1) cp efi ela eco ene ldp dp dbl hlv spl mrg lfi lla lco lne lev ptr llo lhi lsp) := hD
    refine lv_iload_n hx hb dX3_takeAgain_38 rfl (lv_at hl 0 rfl) ?_
    exact tq_iret (v := (nI (ord tk))) C rfl () hP hD hS (rfl) (Nat.le_of_ble_eq_true rfl) (Nat.le_of_ble_eq_true rfl) dX3_takeAgain_39
  · omega
set_option maxHeartbeats 4000000 in
set_option maxRecDepth 100000 in
theorem c_X3_releaseAll (l : Launch) (D : va_G) (cy : ClassId) (a : Nat → Nat) (key : Nat → Nat) (val : Nat → Nat) (ord : Nat → Nat) (tk : Nat) (cp : Nat) (efi : Nat → Nat) (ela : Nat → Nat) (eco : Nat → Nat) (ene : Nat → Nat) (ldp : Nat → Nat) (dp : Nat) (dbl : Int32) (hlv : Int32) (spl : Int32) (mrg : Int32) (lfi : Nat → Nat) (lla : Nat → Nat) (lco : Nat → Nat) (lne : Nat → Nat) (lev : Nat) (ptr : Nat) (llo : Nat) (lhi : Nat) (lsp : Int32)   : tq_V (S := Unit) l yX3_releaseAll cX3_releaseAll 1 0 0 0 0 D cy (wC cy a key val ord tk cp efi ela eco ene ldp dp dbl hlv spl mrg lfi lla lco lne lev ptr llo lhi lsp) [.ref (a 1)] (fun _ => True) (fun u => (wC cy a key val ord 0 cp efi ela eco ene ldp dp dbl hlv spl mrg lfi lla lco lne lev ptr llo lhi lsp)) := by
  refine tq_V.mk (by decide) (Nat.le_of_ble_eq_true rfl) ?_
  intro p e s m args below meth c A C hin hP hK hD hS hA ls hl
  obtain ⟨hx, hb, hml, hown, hrt, hlk, hT⟩ := id C
  have hl : lv_has ls 1 [(0, .ref (a 1))] := hl
  refine lv_aload_n hx hb dX3_releaseAll_0 rfl (lv_at hl 0 rfl) ?_
  refine lv_iconst (v := nI 0) hx hb dX3_releaseAll_1 (by decide) ?_
  refine tq_put (v := .int (nI (0))) (C0 := RX3) (T := TX3) (N := 5) (ci := 3) (k := 3) (ty := .int) C gX3 inX3 tyX3_ok nmX3 rfl (by decide) rfl fl_X3_21 rfl (by decide +kernel) hK hP hD hS 1 rfl rfl rfl (Nat.le_of_ble_eq_true rfl) dX3_releaseAll_2 (fun H locs hP hD hS => ?_)
  have hP : va_P D vwCl (wC cy a key val ord 0 cp efi ela eco ene ldp dp dbl hlv spl mrg lfi lla lco lne lev ptr llo lhi lsp) H := hP
  have hD : va_D A (wC cy a key val ord 0 cp efi ela eco ene ldp dp dbl hlv spl mrg lfi lla lco lne lev ptr llo lhi lsp) := hD
  exact tq_vret C () hP hD hS (trivial) (Nat.le_of_ble_eq_true rfl) (Nat.le_of_ble_eq_true rfl) dX3_releaseAll_5
set_option maxHeartbeats 4000000 in
set_option maxRecDepth 100000 in
theorem c_X3_take (l : Launch) (D : va_G) (cy : ClassId) (a : Nat → Nat) (key : Nat → Nat) (val : Nat → Nat) (ord : Nat → Nat) (tk : Nat) (cp : Nat) (efi : Nat → Nat) (ela : Nat → Nat) (eco : Nat → Nat) (ene : Nat → Nat) (ldp : Nat → Nat) (dp : Nat) (dbl : Int32) (hlv : Int32) (spl : Int32) (mrg : Int32) (lfi : Nat → Nat) (lla : Nat → Nat) (lco : Nat → Nat) (lne : Nat → Nat) (lev : Nat) (ptr : Nat) (llo : Nat) (lhi : Nat) (lsp : Int32) (kx : Nat) (vx : Nat) (hSO : SO key val ord tk) (htk : tk < 120) (hkx : kx < 65536) (hnew : ∀ i, i < tk → key (ord i) ≠ kx) : tq_I (S := (Nat → Nat)) l yX3_take cX3_take 5 (some .int) 2 41 0 0 D cy (wC cy a key val ord tk cp efi ela eco ene ldp dp dbl hlv spl mrg lfi lla lco lne lev ptr llo lhi lsp) [.ref (a 1), .int (nI (kx)), .int (nI (vx))] (fun r u => r = nI (ord tk) ∧ ∃ pl, pl ≤ tk ∧ (∀ i, i < pl → u i = ord i ∧ key (ord i) < kx) ∧ u pl = ord tk ∧ (∀ i, pl ≤ i → i < tk → u (i + 1) = ord i ∧ kx < key (ord i)) ∧ ∀ i, tk < i → u i = ord i) (fun u => (wC cy a (va_up key (ord tk) kx) (va_up val (ord tk) vx) u (tk + 1) cp efi ela eco ene ldp dp dbl hlv spl mrg lfi lla lco lne lev ptr llo lhi lsp)) := by
  refine tq_I.mk (by decide) (Nat.le_of_ble_eq_true rfl) ?_
  intro p e s m args below meth c A C hP hK hD hS hA ls hl
  obtain ⟨hx, hb, hml, hown, hrt, hlk, hT⟩ := id C
  have hl : lv_has ls 5 [(0, .ref (a 1)), (1, .int (nI (kx))), (2, .int (nI (vx)))] := hl
  have hen := hSO.2.1 tk htk
  refine lv_aload_n hx hb dX3_take_0 rfl (lv_at hl 0 rfl) ?_
  refine tq_get (C0 := RX3) (T := TX3) (N := 5) (ci := 3) (k := 3) C gX3 inX3 rfl (by decide) rfl fl_X3_21 hK hP 1 rfl rfl dX3_take_1 ?_
  refine tq_if_lt (tgt := 16) C (by omega) dX3_take_4 (by decide) ?_
  refine lv_aload_n hx hb dX3_take_7 rfl (lv_at hl 0 rfl) ?_
  refine tq_get (C0 := RX3) (T := TX3) (N := 5) (ci := 3) (k := 3) C gX3 inX3 rfl (by decide) rfl fl_X3_21 hK hP 1 rfl rfl dX3_take_8 ?_
  refine lv_bipush (v := nI 120) hx hb dX3_take_11 (by decide) ?_
  refine tq_icmp_lt (tgt := 18) C (by omega) (by omega) dX3_take_13 (by decide) (fun h13 => ?_) (fun h13 => ?_)
  · refine lv_aload_n hx hb dX3_take_18 rfl (lv_at hl 0 rfl) ?_
    refine tq_get (C0 := RX3) (T := TX3) (N := 5) (ci := 3) (k := 2) C gX3 inX3 rfl (by decide) rfl fl_X3_18 hK hP 1 rfl rfl dX3_take_19 ?_
    refine lv_aload_n hx hb dX3_take_22 rfl (lv_at hl 0 rfl) ?_
    refine tq_get (C0 := RX3) (T := TX3) (N := 5) (ci := 3) (k := 3) C gX3 inX3 rfl (by decide) rfl fl_X3_21 hK hP 1 rfl rfl dX3_take_23 ?_
    refine tq_iald (n := 120) (i := tk) (f := ord) C hK hP 6 0 rfl rfl htk (Nat.le_of_ble_eq_true rfl) dX3_take_26 ?_
    refine lv_istore_n (lv' := [(3, .int (nI (ord tk))), (0, .ref (a 1)), (1, .int (nI (kx))), (2, .int (nI (vx)))]) hx hb dX3_take_27 rfl hl (by decide) rfl (fun ls hl => ?_)
    refine lv_iload_n hx hb dX3_take_28 rfl (lv_at hl 0 rfl) ?_
    refine tq_callF (va_runSN C.fix (As := [.int (nI (ord tk))]) (rest := []) (c_X4_isEntry l D cy (ord tk) hen.1 hen.2) (tq_cN (n := 1) C mn_X3_28 sm_X4_isEntry ini_X4 cd_X4_isEntry ⟨by decide, by decide, by decide +kernel⟩ ⟨Nat.le_of_ble_eq_true rfl, Nat.le_of_ble_eq_true rfl⟩) ⟨tq_Pf.blind, tq_preF C hK (hP.sub [] rfl)⟩ rfl rfl hl.1 rfl (lv_room (Nat.le_of_ble_eq_true rfl)) dX3_take_29 ⟨Nat.le_of_ble_eq_true rfl, Nat.le_of_ble_eq_true rfl⟩) (fun r29 hr29 => ?_)
    obtain rfl := hr29
    refine lv_if_ne (tgt := 37) hx hb dX3_take_32 (by decide) (fun _ => ?_) (fun h9 => absurd h9 (by decide))
    refine lv_aload_n hx hb dX3_take_37 rfl (lv_at hl 1 rfl) ?_
    refine tq_get (C0 := RX3) (T := TX3) (N := 5) (ci := 3) (k := 0) C gX3 inX3 rfl (by decide) rfl fl_X3_9 hK hP 1 rfl rfl dX3_take_38 ?_
    refine lv_iload_n hx hb dX3_take_41 rfl (lv_at hl 0 rfl) ?_
    refine lv_iload_n hx hb dX3_take_42 rfl (lv_at hl 2 rfl) ?_
    refine tq_iast (n := 121) (i := (ord tk)) (v := kx) (f := key) C hK hP hD hS 4 0 rfl rfl (Nat.lt_succ_of_le hen.2) (Nat.le_of_ble_eq_true rfl) dX3_take_43 (fun H locs hP hD hS => ?_)
    have hP : va_P D vwCl (wC cy a (va_up key (ord tk) kx) val ord tk cp efi ela eco ene ldp dp dbl hlv spl mrg lfi lla lco lne lev ptr llo lhi lsp) H := hP
    have hD : va_D A (wC cy a (va_up key (ord tk) kx) val ord tk cp efi ela eco ene ldp dp dbl hlv spl mrg lfi lla lco lne lev ptr llo lhi lsp) := hD
    refine lv_aload_n hx hb dX3_take_44 rfl (lv_at hl 1 rfl) ?_
    refine tq_get (C0 := RX3) (T := TX3) (N := 5) (ci := 3) (k := 1) C gX3 inX3 rfl (by decide) rfl fl_X3_15 hK hP 1 rfl rfl dX3_take_45 ?_
    refine lv_iload_n hx hb dX3_take_48 rfl (lv_at hl 0 rfl) ?_
    refine lv_iload_n hx hb dX3_take_49 rfl (lv_at hl 3 rfl) ?_
    refine tq_iast (n := 121) (i := (ord tk)) (v := vx) (f := val) C hK hP hD hS 5 0 rfl rfl (Nat.lt_succ_of_le hen.2) (Nat.le_of_ble_eq_true rfl) dX3_take_50 (fun H locs hP hD hS => ?_)
    have hP : va_P D vwCl (wC cy a (va_up key (ord tk) kx) (va_up val (ord tk) vx) ord tk cp efi ela eco ene ldp dp dbl hlv spl mrg lfi lla lco lne lev ptr llo lhi lsp) H := hP
    have hD : va_D A (wC cy a (va_up key (ord tk) kx) (va_up val (ord tk) vx) ord tk cp efi ela eco ene ldp dp dbl hlv spl mrg lfi lla lco lne lev ptr llo lhi lsp) := hD
    refine lv_aload_n hx hb dX3_take_51 rfl (lv_at hl 1 rfl) ?_
    refine tq_get (C0 := RX3) (T := TX3) (N := 5) (ci := 3) (k := 3) C gX3 inX3 rfl (by decide) rfl fl_X3_21 hK hP 1 rfl rfl dX3_take_52 ?_
    refine lv_istore (lv' := [(4, .int (nI (tk))), (3, .int (nI (ord tk))), (0, .ref (a 1)), (1, .int (nI (kx))), (2, .int (nI (vx)))]) hx hb dX3_take_55 hl (by decide) rfl (fun ls hl => ?_)
    suffices hlp57 : ∀ (n57 : Nat) (pl : Nat) (ord1 : Nat → Nat), pl < n57 → (pl ≤ tk) → (∀ i, i < pl → ord1 i = ord i) → (∀ i, pl ≤ i → i < tk → ord1 (i + 1) = ord i ∧ kx < key (ord i)) → (∀ i, tk < i → ord1 i = ord i) → ∀ (H : Heap) (locs : List Loc), va_P D vwCl (wC cy a (va_up key (ord tk) kx) (va_up val (ord tk) vx) ord1 tk cp efi ela eco ene ldp dp dbl hlv spl mrg lfi lla lco lne lev ptr llo lhi lsp) H → va_D A (wC cy a (va_up key (ord tk) kx) (va_up val (ord tk) vx) ord1 tk cp efi ela eco ene ldp dp dbl hlv spl mrg lfi lla lco lne lev ptr llo lhi lsp) → va_S A s.heap H locs → ∀ ls : Array Slot, lv_has ls 5 [(0, .ref (a 1)), (1, .int (nI (kx))), (2, .int (nI (vx))), (3, .int (nI (ord tk))), (4, .int (nI (pl)))] → W p l e ({ frames := 2, cells := 0, slots := 0, locals := 41 } : Room) s m args below meth c H locs 0 0 (MQ below (va_Qi (S := (Nat → Nat)) (fun r u => r = nI (ord tk) ∧ ∃ pl, pl ≤ tk ∧ (∀ i, i < pl → u i = ord i ∧ key (ord i) < kx) ∧ u pl = ord tk ∧ (∀ i, pl ≤ i → i < tk → u (i + 1) = ord i ∧ kx < key (ord i)) ∧ ∀ i, tk < i → u i = ord i) (tq_B D A (fun u => (wC cy a (va_up key (ord tk) kx) (va_up val (ord tk) vx) u (tk + 1) cp efi ela eco ene ldp dp dbl hlv spl mrg lfi lla lco lne lev ptr llo lhi lsp))) A) args s 0 0 A) (F0 m 57 ls []) from
      hlp57 (tk + 1) tk ord (by omega) (by omega) (fun _ _ => rfl) (fun i h h9 => absurd h (by omega)) (fun _ _ => rfl) _ _ hP hD hS _ (lv_sub hl [2, 3, 4, 1, 0] rfl)
    intro n57
    induction n57 with
    | zero => intro pl ord1 hf; exact absurd hf (Nat.not_lt_zero _)
    | succ n57 ih57 =>
      intro pl ord1 hf57 hpl hlo hhi hup H locs hP hD hS ls hl
      refine lv_iload hx hb dX3_take_57 (lv_at hl 4 rfl) ?_
      refine tq_if_le (tgt := 101) C (by omega) dX3_take_59 (by decide) (fun h59 => ?_) (fun h59 => ?_)
      · refine lv_aload_n hx hb dX3_take_101 rfl (lv_at hl 0 rfl) ?_
        refine tq_get (C0 := RX3) (T := TX3) (N := 5) (ci := 3) (k := 2) C gX3 inX3 rfl (by decide) rfl fl_X3_18 hK hP 1 rfl rfl dX3_take_102 ?_
        refine lv_iload hx hb dX3_take_105 (lv_at hl 4 rfl) ?_
        refine lv_iload_n hx hb dX3_take_107 rfl (lv_at hl 3 rfl) ?_
        refine tq_iast (n := 120) (i := pl) (v := (ord tk)) (f := ord1) C hK hP hD hS 6 0 rfl rfl (by omega) (Nat.le_of_ble_eq_true rfl) dX3_take_108 (fun H locs hP hD hS => ?_)
        have hP : va_P D vwCl (wC cy a (va_up key (ord tk) kx) (va_up val (ord tk) vx) (va_up ord1 pl (ord tk)) tk cp efi ela eco ene ldp dp dbl hlv spl mrg lfi lla lco lne lev ptr llo lhi lsp) H := hP
        have hD : va_D A (wC cy a (va_up key (ord tk) kx) (va_up val (ord tk) vx) (va_up ord1 pl (ord tk)) tk cp efi ela eco ene ldp dp dbl hlv spl mrg lfi lla lco lne lev ptr llo lhi lsp) := hD
        refine lv_aload_n hx hb dX3_take_109 rfl (lv_at hl 0 rfl) ?_
        refine lv_dup hx hb dX3_take_110 rfl ?_
        refine tq_get (C0 := RX3) (T := TX3) (N := 5) (ci := 3) (k := 3) C gX3 inX3 rfl (by decide) rfl fl_X3_21 hK hP 1 rfl rfl dX3_take_111 ?_
        refine lv_iconst (v := nI 1) hx hb dX3_take_114 (by decide) ?_
        refine tq_iadd C dX3_take_115 ?_
        refine tq_put (v := .int (nI (tk + 1))) (C0 := RX3) (T := TX3) (N := 5) (ci := 3) (k := 3) (ty := .int) C gX3 inX3 tyX3_ok nmX3 rfl (by decide) rfl fl_X3_21 rfl (by decide +kernel) hK hP hD hS 1 rfl rfl rfl (Nat.le_of_ble_eq_true rfl) dX3_take_116 (fun H locs hP hD hS => ?_)
        have hP : va_P D vwCl (wC cy a (va_up key (ord tk) kx) (va_up val (ord tk) vx) (va_up ord1 pl (ord tk)) (tk + 1) cp efi ela eco ene ldp dp dbl hlv spl mrg lfi lla lco lne lev ptr llo lhi lsp) H := hP
        have hD : va_D A (wC cy a (va_up key (ord tk) kx) (va_up val (ord tk) vx) (va_up ord1 pl (ord tk)) (tk + 1) cp efi ela eco ene ldp dp dbl hlv spl mrg lfi lla lco lne lev ptr llo lhi lsp) := hD
        refine lv_iload_n hx hb dX3_take_119 rfl (lv_at hl 3 rfl) ?_
        exact tq_iret (v := (nI (ord tk))) C rfl (va_up ord1 pl (ord tk)) hP hD hS (⟨rfl, pl, hpl, fun i hi => ⟨by rw [up_n _ _ (by omega)]; exact hlo i hi, by omega⟩, up_s _ _ _, fun i h9 h8 => by rw [up_n _ _ (by omega)]; exact hhi i h9 h8, fun i hi => by rw [up_n _ _ (by omega)]; exact hup i hi⟩) (Nat.le_of_ble_eq_true rfl) (Nat.le_of_ble_eq_true rfl) dX3_take_120
      · have hq9 : ord1 (pl - 1) = ord (pl - 1) := hlo _ (by omega)
        have hr9 := hSO.2.1 (pl - 1) (by omega)
        have hx9 : ord (pl - 1) ≠ ord tk := fun z => by have := hSO.2.2.1 _ _ (by omega) htk z; omega
        have hk9 := (hSO.2.2.2.2 (ord (pl - 1))).1
        refine lv_aload_n hx hb dX3_take_62 rfl (lv_at hl 0 rfl) ?_
        refine lv_aload_n hx hb dX3_take_63 rfl (lv_at hl 0 rfl) ?_
        refine tq_get (C0 := RX3) (T := TX3) (N := 5) (ci := 3) (k := 2) C gX3 inX3 rfl (by decide) rfl fl_X3_18 hK hP 1 rfl rfl dX3_take_64 ?_
        refine lv_iload hx hb dX3_take_67 (lv_at hl 4 rfl) ?_
        refine lv_iconst (v := nI 1) hx hb dX3_take_69 (by decide) ?_
        refine tq_isub C (by omega) dX3_take_70 ?_
        refine tq_iald (n := 120) (i := (pl - 1)) (f := ord1) C hK hP 6 0 rfl rfl (by omega) (Nat.le_of_ble_eq_true rfl) dX3_take_71 ?_
        refine tq_top (y := nI (ord (pl - 1))) (by rw [hq9]) ?_
        refine tq_callF (va_runV C.fix (As := [.int (nI (ord (pl - 1)))]) (rest := []) (c_X3_keyOf l D cy (a 1) (a 4) (a 5) (a 6) (va_up key (ord tk) kx) tk cp (ord (pl - 1)) hr9.1 hr9.2) (tq_cV (n := 1) C ml_X3_36 im_X3_keyOf se_X3_keyOf ini_X3 cd_X3_keyOf ⟨by decide, by decide, by decide +kernel⟩ ⟨Nat.le_of_ble_eq_true rfl, Nat.le_of_ble_eq_true rfl⟩) ⟨tq_Pf.blind, va_recv hK hP (ci := 3) (q0 := 1) rfl rfl, tq_preF C hK (hP.sub [1, 4] rfl)⟩ rfl rfl hl.1 rfl (lv_room (Nat.le_of_ble_eq_true rfl)) dX3_take_72 ⟨Nat.le_of_ble_eq_true rfl, Nat.le_of_ble_eq_true rfl⟩) (fun r72 hr72 => ?_)
        obtain rfl := hr72
        refine tq_top (y := nI (key (ord (pl - 1)))) (by rw [up_n _ _ hx9]) ?_
        refine lv_iload_n hx hb dX3_take_75 rfl (lv_at hl 1 rfl) ?_
        refine tq_icmp_le (tgt := 101) C (by omega) (by omega) dX3_take_76 (by decide) (fun h76 => ?_) (fun h76 => ?_)
        · refine lv_aload_n hx hb dX3_take_101 rfl (lv_at hl 0 rfl) ?_
          refine tq_get (C0 := RX3) (T := TX3) (N := 5) (ci := 3) (k := 2) C gX3 inX3 rfl (by decide) rfl fl_X3_18 hK hP 1 rfl rfl dX3_take_102 ?_
          refine lv_iload hx hb dX3_take_105 (lv_at hl 4 rfl) ?_
          refine lv_iload_n hx hb dX3_take_107 rfl (lv_at hl 3 rfl) ?_
          refine tq_iast (n := 120) (i := pl) (v := (ord tk)) (f := ord1) C hK hP hD hS 6 0 rfl rfl (by omega) (Nat.le_of_ble_eq_true rfl) dX3_take_108 (fun H locs hP hD hS => ?_)
          have hP : va_P D vwCl (wC cy a (va_up key (ord tk) kx) (va_up val (ord tk) vx) (va_up ord1 pl (ord tk)) tk cp efi ela eco ene ldp dp dbl hlv spl mrg lfi lla lco lne lev ptr llo lhi lsp) H := hP
          have hD : va_D A (wC cy a (va_up key (ord tk) kx) (va_up val (ord tk) vx) (va_up ord1 pl (ord tk)) tk cp efi ela eco ene ldp dp dbl hlv spl mrg lfi lla lco lne lev ptr llo lhi lsp) := hD
          refine lv_aload_n hx hb dX3_take_109 rfl (lv_at hl 0 rfl) ?_
          refine lv_dup hx hb dX3_take_110 rfl ?_
          refine tq_get (C0 := RX3) (T := TX3) (N := 5) (ci := 3) (k := 3) C gX3 inX3 rfl (by decide) rfl fl_X3_21 hK hP 1 rfl rfl dX3_take_111 ?_
          refine lv_iconst (v := nI 1) hx hb dX3_take_114 (by decide) ?_
          refine tq_iadd C dX3_take_115 ?_
          refine tq_put (v := .int (nI (tk + 1))) (C0 := RX3) (T := TX3) (N := 5) (ci := 3) (k := 3) (ty := .int) C gX3 inX3 tyX3_ok nmX3 rfl (by decide) rfl fl_X3_21 rfl (by decide +kernel) hK hP hD hS 1 rfl rfl rfl (Nat.le_of_ble_eq_true rfl) dX3_take_116 (fun H locs hP hD hS => ?_)
          have hP : va_P D vwCl (wC cy a (va_up key (ord tk) kx) (va_up val (ord tk) vx) (va_up ord1 pl (ord tk)) (tk + 1) cp efi ela eco ene ldp dp dbl hlv spl mrg lfi lla lco lne lev ptr llo lhi lsp) H := hP
          have hD : va_D A (wC cy a (va_up key (ord tk) kx) (va_up val (ord tk) vx) (va_up ord1 pl (ord tk)) (tk + 1) cp efi ela eco ene ldp dp dbl hlv spl mrg lfi lla lco lne lev ptr llo lhi lsp) := hD
          refine lv_iload_n hx hb dX3_take_119 rfl (lv_at hl 3 rfl) ?_
          exact tq_iret (v := (nI (ord tk))) C rfl (va_up ord1 pl (ord tk)) hP hD hS (⟨rfl, pl, hpl, fun i hi => ⟨by rw [up_n _ _ (by omega)]; exact hlo i hi, by
              rcases Nat.lt_or_ge i (pl - 1) with q | q
              · exact Nat.lt_of_lt_of_le (hSO.2.2.2.1 i (pl - 1) q (by omega)) h76
              · have := hnew (pl - 1) (by omega); rw [show i = pl - 1 from by omega]; omega⟩, up_s _ _ _, fun i h9 h8 => by rw [up_n _ _ (by omega)]; exact hhi i h9 h8, fun i hi => by rw [up_n _ _ (by omega)]; exact hup i hi⟩) (Nat.le_of_ble_eq_true rfl) (Nat.le_of_ble_eq_true rfl) dX3_take_120
        · refine lv_aload_n hx hb dX3_take_79 rfl (lv_at hl 0 rfl) ?_
          refine tq_get (C0 := RX3) (T := TX3) (N := 5) (ci := 3) (k := 2) C gX3 inX3 rfl (by decide) rfl fl_X3_18 hK hP 1 rfl rfl dX3_take_80 ?_
          refine lv_iload hx hb dX3_take_83 (lv_at hl 4 rfl) ?_
          refine lv_aload_n hx hb dX3_take_85 rfl (lv_at hl 0 rfl) ?_
          refine tq_get (C0 := RX3) (T := TX3) (N := 5) (ci := 3) (k := 2) C gX3 inX3 rfl (by decide) rfl fl_X3_18 hK hP 1 rfl rfl dX3_take_86 ?_
          refine lv_iload hx hb dX3_take_89 (lv_at hl 4 rfl) ?_
          refine lv_iconst (v := nI 1) hx hb dX3_take_91 (by decide) ?_
          refine tq_isub C (by omega) dX3_take_92 ?_
          refine tq_iald (n := 120) (i := (pl - 1)) (f := ord1) C hK hP 6 0 rfl rfl (by omega) (Nat.le_of_ble_eq_true rfl) dX3_take_93 ?_
          refine tq_iast (n := 120) (i := pl) (v := (ord1 (pl - 1))) (f := ord1) C hK hP hD hS 6 0 rfl rfl (by omega) (Nat.le_of_ble_eq_true rfl) dX3_take_94 (fun H locs hP hD hS => ?_)
          have hP : va_P D vwCl (wC cy a (va_up key (ord tk) kx) (va_up val (ord tk) vx) (va_up ord1 pl (ord1 (pl - 1))) tk cp efi ela eco ene ldp dp dbl hlv spl mrg lfi lla lco lne lev ptr llo lhi lsp) H := hP
          have hD : va_D A (wC cy a (va_up key (ord tk) kx) (va_up val (ord tk) vx) (va_up ord1 pl (ord1 (pl - 1))) tk cp efi ela eco ene ldp dp dbl hlv spl mrg lfi lla lco lne lev ptr llo lhi lsp) := hD
          refine lv_iinc (v := (nI (pl - 1))) (lv' := [(4, .int (nI (pl - 1))), (0, .ref (a 1)), (1, .int (nI (kx))), (2, .int (nI (vx))), (3, .int (nI (ord tk)))]) hx hb dX3_take_95 hl (k := 4) rfl (tq_dec (by omega)) (by decide) rfl (fun ls hl => ?_)
          refine lv_goto (tgt := 57) hx hb dX3_take_98 (by decide) ?_
          exact ih57 (pl - 1) (va_up ord1 pl (ord1 (pl - 1))) (by omega) (by omega) (fun i hi => by rw [up_n _ _ (by omega)]; exact hlo i (by omega)) (fun i hi h9 => (by
            by_cases q : i = pl - 1
            · subst q
              rw [show pl - 1 + 1 = pl from by omega, up_s]
              exact ⟨hq9, by omega⟩
            · rw [up_n _ _ (by omega)]; exact hhi i (by omega) h9)) (fun i hi => by rw [up_n _ _ (by omega)]; exact hup i hi) _ _ hP hD hS _ (lv_sub hl [1, 2, 3, 4, 0] rfl)
  · omega
set_option maxHeartbeats 4000000 in
set_option maxRecDepth 100000 in
theorem c_X3_release (l : Launch) (D : va_G) (cy : ClassId) (a : Nat → Nat) (key : Nat → Nat) (val : Nat → Nat) (ord : Nat → Nat) (tk : Nat) (cp : Nat) (efi : Nat → Nat) (ela : Nat → Nat) (eco : Nat → Nat) (ene : Nat → Nat) (ldp : Nat → Nat) (dp : Nat) (dbl : Int32) (hlv : Int32) (spl : Int32) (mrg : Int32) (lfi : Nat → Nat) (lla : Nat → Nat) (lco : Nat → Nat) (lne : Nat → Nat) (lev : Nat) (ptr : Nat) (llo : Nat) (lhi : Nat) (lsp : Int32) (en : Nat) (i0 : Nat) (hSO : SO key val ord tk) (hi0 : i0 < tk) (hen : ord i0 = en) : tq_V (S := (Nat → Nat)) l yX3_release cX3_release 4 0 0 0 0 D cy (wC cy a key val ord tk cp efi ela eco ene ldp dp dbl hlv spl mrg lfi lla lco lne lev ptr llo lhi lsp) [.ref (a 1), .int (nI (en))] (fun u => (∀ i, i < i0 → u i = ord i) ∧ (∀ i, i0 ≤ i → i < tk - 1 → u i = ord (i + 1)) ∧ u (tk - 1) = en ∧ ∀ i, tk ≤ i → u i = ord i) (fun u => (wC cy a key val u (tk - 1) cp efi ela eco ene ldp dp dbl hlv spl mrg lfi lla lco lne lev ptr llo lhi lsp)) := by
  refine tq_V.mk (by decide) (Nat.le_of_ble_eq_true rfl) ?_
  intro p e s m args below meth c A C hin hP hK hD hS hA ls hl
  obtain ⟨hx, hb, hml, hown, hrt, hlk, hT⟩ := id C
  have hl : lv_has ls 4 [(0, .ref (a 1)), (1, .int (nI (en)))] := hl
  have htk9 := hSO.1
  have he9 := hSO.2.1 i0 (by omega)
  refine lv_aload_n hx hb dX3_release_0 rfl (lv_at hl 0 rfl) ?_
  refine tq_get (C0 := RX3) (T := TX3) (N := 5) (ci := 3) (k := 3) C gX3 inX3 rfl (by decide) rfl fl_X3_21 hK hP 1 rfl rfl dX3_release_1 ?_
  refine lv_iconst (v := nI 1) hx hb dX3_release_4 (by decide) ?_
  refine tq_isub C (by omega) dX3_release_5 ?_
  refine lv_istore_n (lv' := [(2, .int (nI (tk - 1))), (0, .ref (a 1)), (1, .int (nI (en)))]) hx hb dX3_release_6 rfl hl (by decide) rfl (fun ls hl => ?_)
  refine lv_iload_n hx hb dX3_release_7 rfl (lv_at hl 0 rfl) ?_
  refine tq_if_lt (tgt := 17) C (by omega) dX3_release_8 (by decide) ?_
  refine lv_iload_n hx hb dX3_release_11 rfl (lv_at hl 0 rfl) ?_
  refine lv_bipush (v := nI 120) hx hb dX3_release_12 (by decide) ?_
  refine tq_icmp_lt (tgt := 18) C (by omega) (by omega) dX3_release_14 (by decide) (fun h14 => ?_) (fun h14 => ?_)
  · refine lv_iconst (v := nI 0) hx hb dX3_release_18 (by decide) ?_
    refine lv_istore_n (lv' := [(3, .int (nI (0))), (2, .int (nI (tk - 1))), (0, .ref (a 1)), (1, .int (nI (en)))]) hx hb dX3_release_19 rfl hl (by decide) rfl (fun ls hl => ?_)
    suffices hlp20 : ∀ (n20 : Nat) (i : Nat), i0 - i < n20 → (i ≤ i0) → ∀ (H : Heap) (locs : List Loc), va_P D vwCl (wC cy a key val ord tk cp efi ela eco ene ldp dp dbl hlv spl mrg lfi lla lco lne lev ptr llo lhi lsp) H → va_D A (wC cy a key val ord tk cp efi ela eco ene ldp dp dbl hlv spl mrg lfi lla lco lne lev ptr llo lhi lsp) → va_S A s.heap H locs → ∀ ls : Array Slot, lv_has ls 4 [(0, .ref (a 1)), (1, .int (nI (en))), (2, .int (nI (tk - 1))), (3, .int (nI (i)))] → W p l e ({ frames := 0, cells := 0, slots := 0, locals := 0 } : Room) s m args below meth c H locs 0 0 (MQ below (va_Qv (S := (Nat → Nat)) (fun u => (∀ i, i < i0 → u i = ord i) ∧ (∀ i, i0 ≤ i → i < tk - 1 → u i = ord (i + 1)) ∧ u (tk - 1) = en ∧ ∀ i, tk ≤ i → u i = ord i) (tq_B D A (fun u => (wC cy a key val u (tk - 1) cp efi ela eco ene ldp dp dbl hlv spl mrg lfi lla lco lne lev ptr llo lhi lsp))) A) args s 0 0 A) (F0 m 20 ls []) from
      hlp20 (i0 + 1) 0 (by omega) (by omega) _ _ hP hD hS _ (lv_sub hl [2, 3, 1, 0] rfl)
    intro n20
    induction n20 with
    | zero => intro i hf; exact absurd hf (Nat.not_lt_zero _)
    | succ n20 ih20 =>
      intro i hf20 hi H locs hP hD hS ls hl
      refine lv_iload_n hx hb dX3_release_20 rfl (lv_at hl 3 rfl) ?_
      refine lv_iload_n hx hb dX3_release_21 rfl (lv_at hl 2 rfl) ?_
      refine tq_icmp_ge (tgt := 41) C (by omega) (by omega) dX3_release_22 (by decide) (fun h22 => ?_) (fun h22 => ?_)
      · have hie : i = i0 := by omega
        suffices hlp41 : ∀ (n41 : Nat) (pp : Nat) (ord1 : Nat → Nat), tk - 1 - pp < n41 → (i0 ≤ pp) → (pp ≤ tk - 1) → (∀ i, i < i0 → ord1 i = ord i) → (∀ i, i0 ≤ i → i < pp → ord1 i = ord (i + 1)) → (∀ i, pp ≤ i → ord1 i = ord i) → ∀ (H : Heap) (locs : List Loc), va_P D vwCl (wC cy a key val ord1 tk cp efi ela eco ene ldp dp dbl hlv spl mrg lfi lla lco lne lev ptr llo lhi lsp) H → va_D A (wC cy a key val ord1 tk cp efi ela eco ene ldp dp dbl hlv spl mrg lfi lla lco lne lev ptr llo lhi lsp) → va_S A s.heap H locs → ∀ ls : Array Slot, lv_has ls 4 [(0, .ref (a 1)), (1, .int (nI (en))), (2, .int (nI (tk - 1))), (3, .int (nI (pp)))] → W p l e ({ frames := 0, cells := 0, slots := 0, locals := 0 } : Room) s m args below meth c H locs 0 0 (MQ below (va_Qv (S := (Nat → Nat)) (fun u => (∀ i, i < i0 → u i = ord i) ∧ (∀ i, i0 ≤ i → i < tk - 1 → u i = ord (i + 1)) ∧ u (tk - 1) = en ∧ ∀ i, tk ≤ i → u i = ord i) (tq_B D A (fun u => (wC cy a key val u (tk - 1) cp efi ela eco ene ldp dp dbl hlv spl mrg lfi lla lco lne lev ptr llo lhi lsp))) A) args s 0 0 A) (F0 m 41 ls []) from
          hlp41 tk i ord (by omega) (by omega) (by omega) (fun _ _ => rfl) (fun i h h9 => absurd h (by omega)) (fun _ _ => rfl) _ _ hP hD hS _ (lv_sub hl [0, 1, 2, 3] rfl)
        intro n41
        induction n41 with
        | zero => intro pp ord1 hf; exact absurd hf (Nat.not_lt_zero _)
        | succ n41 ih41 =>
          intro pp ord1 hf41 hp1 hp2 ho1 ho2 ho3 H locs hP hD hS ls hl
          refine lv_iload_n hx hb dX3_release_41 rfl (lv_at hl 3 rfl) ?_
          refine lv_iload_n hx hb dX3_release_42 rfl (lv_at hl 2 rfl) ?_
          refine tq_icmp_ge (tgt := 66) C (by omega) (by omega) dX3_release_43 (by decide) (fun h43 => ?_) (fun h43 => ?_)
          · refine lv_aload_n hx hb dX3_release_66 rfl (lv_at hl 0 rfl) ?_
            refine tq_get (C0 := RX3) (T := TX3) (N := 5) (ci := 3) (k := 2) C gX3 inX3 rfl (by decide) rfl fl_X3_18 hK hP 1 rfl rfl dX3_release_67 ?_
            refine lv_iload_n hx hb dX3_release_70 rfl (lv_at hl 2 rfl) ?_
            refine lv_iload_n hx hb dX3_release_71 rfl (lv_at hl 1 rfl) ?_
            refine tq_iast (n := 120) (i := (tk - 1)) (v := en) (f := ord1) C hK hP hD hS 6 0 rfl rfl (by omega) (Nat.le_of_ble_eq_true rfl) dX3_release_72 (fun H locs hP hD hS => ?_)
            have hP : va_P D vwCl (wC cy a key val (va_up ord1 (tk - 1) en) tk cp efi ela eco ene ldp dp dbl hlv spl mrg lfi lla lco lne lev ptr llo lhi lsp) H := hP
            have hD : va_D A (wC cy a key val (va_up ord1 (tk - 1) en) tk cp efi ela eco ene ldp dp dbl hlv spl mrg lfi lla lco lne lev ptr llo lhi lsp) := hD
            refine lv_aload_n hx hb dX3_release_73 rfl (lv_at hl 0 rfl) ?_
            refine lv_iload_n hx hb dX3_release_74 rfl (lv_at hl 2 rfl) ?_
            refine tq_put (v := .int (nI (tk - 1))) (C0 := RX3) (T := TX3) (N := 5) (ci := 3) (k := 3) (ty := .int) C gX3 inX3 tyX3_ok nmX3 rfl (by decide) rfl fl_X3_21 rfl (by decide +kernel) hK hP hD hS 1 rfl rfl rfl (Nat.le_of_ble_eq_true rfl) dX3_release_75 (fun H locs hP hD hS => ?_)
            have hP : va_P D vwCl (wC cy a key val (va_up ord1 (tk - 1) en) (tk - 1) cp efi ela eco ene ldp dp dbl hlv spl mrg lfi lla lco lne lev ptr llo lhi lsp) H := hP
            have hD : va_D A (wC cy a key val (va_up ord1 (tk - 1) en) (tk - 1) cp efi ela eco ene ldp dp dbl hlv spl mrg lfi lla lco lne lev ptr llo lhi lsp) := hD
            exact tq_vret C (va_up ord1 (tk - 1) en) hP hD hS (⟨fun i hi => by rw [up_n _ _ (by omega)]; exact ho1 i hi, fun i hi h9 => by rw [up_n _ _ (by omega)]; exact ho2 i hi (by omega), up_s _ _ _, fun i hi => by rw [up_n _ _ (by omega)]; exact ho3 i (by omega)⟩) (Nat.le_of_ble_eq_true rfl) (Nat.le_of_ble_eq_true rfl) dX3_release_78
          · refine lv_aload_n hx hb dX3_release_46 rfl (lv_at hl 0 rfl) ?_
            refine tq_get (C0 := RX3) (T := TX3) (N := 5) (ci := 3) (k := 2) C gX3 inX3 rfl (by decide) rfl fl_X3_18 hK hP 1 rfl rfl dX3_release_47 ?_
            refine lv_iload_n hx hb dX3_release_50 rfl (lv_at hl 3 rfl) ?_
            refine lv_aload_n hx hb dX3_release_51 rfl (lv_at hl 0 rfl) ?_
            refine tq_get (C0 := RX3) (T := TX3) (N := 5) (ci := 3) (k := 2) C gX3 inX3 rfl (by decide) rfl fl_X3_18 hK hP 1 rfl rfl dX3_release_52 ?_
            refine lv_iload_n hx hb dX3_release_55 rfl (lv_at hl 3 rfl) ?_
            refine lv_iconst (v := nI 1) hx hb dX3_release_56 (by decide) ?_
            refine tq_iadd C dX3_release_57 ?_
            refine tq_iald (n := 120) (i := (pp + 1)) (f := ord1) C hK hP 6 0 rfl rfl (by omega) (Nat.le_of_ble_eq_true rfl) dX3_release_58 ?_
            refine tq_iast (n := 120) (i := pp) (v := (ord1 (pp + 1))) (f := ord1) C hK hP hD hS 6 0 rfl rfl (by omega) (Nat.le_of_ble_eq_true rfl) dX3_release_59 (fun H locs hP hD hS => ?_)
            have hP : va_P D vwCl (wC cy a key val (va_up ord1 pp (ord1 (pp + 1))) tk cp efi ela eco ene ldp dp dbl hlv spl mrg lfi lla lco lne lev ptr llo lhi lsp) H := hP
            have hD : va_D A (wC cy a key val (va_up ord1 pp (ord1 (pp + 1))) tk cp efi ela eco ene ldp dp dbl hlv spl mrg lfi lla lco lne lev ptr llo lhi lsp) := hD
            refine lv_iinc (v := (nI (pp + 1))) (lv' := [(3, .int (nI (pp + 1))), (0, .ref (a 1)), (1, .int (nI (en))), (2, .int (nI (tk - 1)))]) hx hb dX3_release_60 hl (k := 3) rfl (tq_inc1 _) (by decide) rfl (fun ls hl => ?_)
            refine lv_goto (tgt := 41) hx hb dX3_release_63 (by decide) ?_
            exact ih41 (pp + 1) (va_up ord1 pp (ord1 (pp + 1))) (by omega) (by omega) (by omega) (fun i hi => by rw [up_n _ _ (by omega)]; exact ho1 i hi) (fun i hi h9 => (by
              by_cases q : i = pp
              · subst q; rw [up_s]; exact ho3 _ (by omega)
              · rw [up_n _ _ q]; exact ho2 i hi (by omega))) (fun i hi => by rw [up_n _ _ (by omega)]; exact ho3 i (by omega)) _ _ hP hD hS _ (lv_sub hl [1, 2, 3, 0] rfl)
      · have ho9 := hSO.2.1 i (by omega)
        refine lv_aload_n hx hb dX3_release_25 rfl (lv_at hl 0 rfl) ?_
        refine tq_get (C0 := RX3) (T := TX3) (N := 5) (ci := 3) (k := 2) C gX3 inX3 rfl (by decide) rfl fl_X3_18 hK hP 1 rfl rfl dX3_release_26 ?_
        refine lv_iload_n hx hb dX3_release_29 rfl (lv_at hl 3 rfl) ?_
        refine tq_iald (n := 120) (i := i) (f := ord) C hK hP 6 0 rfl rfl (by omega) (Nat.le_of_ble_eq_true rfl) dX3_release_30 ?_
        refine lv_iload_n hx hb dX3_release_31 rfl (lv_at hl 1 rfl) ?_
        refine tq_icmp_eq (tgt := 41) C (by omega) (by omega) dX3_release_32 (by decide) (fun h32 => ?_) (fun h32 => ?_)
        · have hie := hSO.2.2.1 i i0 (by omega) (by omega) (h32.trans hen.symm)
          suffices hlp41 : ∀ (n41 : Nat) (pp : Nat) (ord1 : Nat → Nat), tk - 1 - pp < n41 → (i0 ≤ pp) → (pp ≤ tk - 1) → (∀ i, i < i0 → ord1 i = ord i) → (∀ i, i0 ≤ i → i < pp → ord1 i = ord (i + 1)) → (∀ i, pp ≤ i → ord1 i = ord i) → ∀ (H : Heap) (locs : List Loc), va_P D vwCl (wC cy a key val ord1 tk cp efi ela eco ene ldp dp dbl hlv spl mrg lfi lla lco lne lev ptr llo lhi lsp) H → va_D A (wC cy a key val ord1 tk cp efi ela eco ene ldp dp dbl hlv spl mrg lfi lla lco lne lev ptr llo lhi lsp) → va_S A s.heap H locs → ∀ ls : Array Slot, lv_has ls 4 [(0, .ref (a 1)), (1, .int (nI (en))), (2, .int (nI (tk - 1))), (3, .int (nI (pp)))] → W p l e ({ frames := 0, cells := 0, slots := 0, locals := 0 } : Room) s m args below meth c H locs 0 0 (MQ below (va_Qv (S := (Nat → Nat)) (fun u => (∀ i, i < i0 → u i = ord i) ∧ (∀ i, i0 ≤ i → i < tk - 1 → u i = ord (i + 1)) ∧ u (tk - 1) = en ∧ ∀ i, tk ≤ i → u i = ord i) (tq_B D A (fun u => (wC cy a key val u (tk - 1) cp efi ela eco ene ldp dp dbl hlv spl mrg lfi lla lco lne lev ptr llo lhi lsp))) A) args s 0 0 A) (F0 m 41 ls []) from
            hlp41 tk i ord (by omega) (by omega) (by omega) (fun _ _ => rfl) (fun i h h9 => absurd h (by omega)) (fun _ _ => rfl) _ _ hP hD hS _ (lv_sub hl [0, 1, 2, 3] rfl)
          intro n41
          induction n41 with
          | zero => intro pp ord1 hf; exact absurd hf (Nat.not_lt_zero _)
          | succ n41 ih41 =>
            intro pp ord1 hf41 hp1 hp2 ho1 ho2 ho3 H locs hP hD hS ls hl
            refine lv_iload_n hx hb dX3_release_41 rfl (lv_at hl 3 rfl) ?_
            refine lv_iload_n hx hb dX3_release_42 rfl (lv_at hl 2 rfl) ?_
            refine tq_icmp_ge (tgt := 66) C (by omega) (by omega) dX3_release_43 (by decide) (fun h43 => ?_) (fun h43 => ?_)
            · refine lv_aload_n hx hb dX3_release_66 rfl (lv_at hl 0 rfl) ?_
              refine tq_get (C0 := RX3) (T := TX3) (N := 5) (ci := 3) (k := 2) C gX3 inX3 rfl (by decide) rfl fl_X3_18 hK hP 1 rfl rfl dX3_release_67 ?_
              refine lv_iload_n hx hb dX3_release_70 rfl (lv_at hl 2 rfl) ?_
              refine lv_iload_n hx hb dX3_release_71 rfl (lv_at hl 1 rfl) ?_
              refine tq_iast (n := 120) (i := (tk - 1)) (v := en) (f := ord1) C hK hP hD hS 6 0 rfl rfl (by omega) (Nat.le_of_ble_eq_true rfl) dX3_release_72 (fun H locs hP hD hS => ?_)
              have hP : va_P D vwCl (wC cy a key val (va_up ord1 (tk - 1) en) tk cp efi ela eco ene ldp dp dbl hlv spl mrg lfi lla lco lne lev ptr llo lhi lsp) H := hP
              have hD : va_D A (wC cy a key val (va_up ord1 (tk - 1) en) tk cp efi ela eco ene ldp dp dbl hlv spl mrg lfi lla lco lne lev ptr llo lhi lsp) := hD
              refine lv_aload_n hx hb dX3_release_73 rfl (lv_at hl 0 rfl) ?_
              refine lv_iload_n hx hb dX3_release_74 rfl (lv_at hl 2 rfl) ?_
              refine tq_put (v := .int (nI (tk - 1))) (C0 := RX3) (T := TX3) (N := 5) (ci := 3) (k := 3) (ty := .int) C gX3 inX3 tyX3_ok nmX3 rfl (by decide) rfl fl_X3_21 rfl (by decide +kernel) hK hP hD hS 1 rfl rfl rfl (Nat.le_of_ble_eq_true rfl) dX3_release_75 (fun H locs hP hD hS => ?_)
              have hP : va_P D vwCl (wC cy a key val (va_up ord1 (tk - 1) en) (tk - 1) cp efi ela eco ene ldp dp dbl hlv spl mrg lfi lla lco lne lev ptr llo lhi lsp) H := hP
              have hD : va_D A (wC cy a key val (va_up ord1 (tk - 1) en) (tk - 1) cp efi ela eco ene ldp dp dbl hlv spl mrg lfi lla lco lne lev ptr llo lhi lsp) := hD
              exact tq_vret C (va_up ord1 (tk - 1) en) hP hD hS (⟨fun i hi => by rw [up_n _ _ (by omega)]; exact ho1 i hi, fun i hi h9 => by rw [up_n _ _ (by omega)]; exact ho2 i hi (by omega), up_s _ _ _, fun i hi => by rw [up_n _ _ (by omega)]; exact ho3 i (by omega)⟩) (Nat.le_of_ble_eq_true rfl) (Nat.le_of_ble_eq_true rfl) dX3_release_78
            · refine lv_aload_n hx hb dX3_release_46 rfl (lv_at hl 0 rfl) ?_
              refine tq_get (C0 := RX3) (T := TX3) (N := 5) (ci := 3) (k := 2) C gX3 inX3 rfl (by decide) rfl fl_X3_18 hK hP 1 rfl rfl dX3_release_47 ?_
              refine lv_iload_n hx hb dX3_release_50 rfl (lv_at hl 3 rfl) ?_
              refine lv_aload_n hx hb dX3_release_51 rfl (lv_at hl 0 rfl) ?_
              refine tq_get (C0 := RX3) (T := TX3) (N := 5) (ci := 3) (k := 2) C gX3 inX3 rfl (by decide) rfl fl_X3_18 hK hP 1 rfl rfl dX3_release_52 ?_
              refine lv_iload_n hx hb dX3_release_55 rfl (lv_at hl 3 rfl) ?_
              refine lv_iconst (v := nI 1) hx hb dX3_release_56 (by decide) ?_
              refine tq_iadd C dX3_release_57 ?_
              refine tq_iald (n := 120) (i := (pp + 1)) (f := ord1) C hK hP 6 0 rfl rfl (by omega) (Nat.le_of_ble_eq_true rfl) dX3_release_58 ?_
              refine tq_iast (n := 120) (i := pp) (v := (ord1 (pp + 1))) (f := ord1) C hK hP hD hS 6 0 rfl rfl (by omega) (Nat.le_of_ble_eq_true rfl) dX3_release_59 (fun H locs hP hD hS => ?_)
              have hP : va_P D vwCl (wC cy a key val (va_up ord1 pp (ord1 (pp + 1))) tk cp efi ela eco ene ldp dp dbl hlv spl mrg lfi lla lco lne lev ptr llo lhi lsp) H := hP
              have hD : va_D A (wC cy a key val (va_up ord1 pp (ord1 (pp + 1))) tk cp efi ela eco ene ldp dp dbl hlv spl mrg lfi lla lco lne lev ptr llo lhi lsp) := hD
              refine lv_iinc (v := (nI (pp + 1))) (lv' := [(3, .int (nI (pp + 1))), (0, .ref (a 1)), (1, .int (nI (en))), (2, .int (nI (tk - 1)))]) hx hb dX3_release_60 hl (k := 3) rfl (tq_inc1 _) (by decide) rfl (fun ls hl => ?_)
              refine lv_goto (tgt := 41) hx hb dX3_release_63 (by decide) ?_
              exact ih41 (pp + 1) (va_up ord1 pp (ord1 (pp + 1))) (by omega) (by omega) (by omega) (fun i hi => by rw [up_n _ _ (by omega)]; exact ho1 i hi) (fun i hi h9 => (by
                by_cases q : i = pp
                · subst q; rw [up_s]; exact ho3 _ (by omega)
                · rw [up_n _ _ q]; exact ho2 i hi (by omega))) (fun i hi => by rw [up_n _ _ (by omega)]; exact ho3 i (by omega)) _ _ hP hD hS _ (lv_sub hl [1, 2, 3, 0] rfl)
        · have hin9 : i < i0 := by
            rcases Nat.lt_or_ge i i0 with q | q
            · exact q
            · exact absurd (by rw [show i = i0 from by omega]; exact hen) h32
          refine lv_iinc (v := (nI (i + 1))) (lv' := [(3, .int (nI (i + 1))), (0, .ref (a 1)), (1, .int (nI (en))), (2, .int (nI (tk - 1)))]) hx hb dX3_release_35 hl (k := 3) rfl (tq_inc1 _) (by decide) rfl (fun ls hl => ?_)
          refine lv_goto (tgt := 20) hx hb dX3_release_38 (by decide) ?_
          exact ih20 (i + 1) (by omega) (by omega) _ _ hP hD hS _ (lv_sub hl [1, 2, 3, 0] rfl)
  · omega
end
section

def xrow (ldp : Nat → Nat) (dp kx : Nat) : Nat := hs kx % 2 ^ dp % 2 ^ (ldp (hs kx % 2 ^ dp))
theorem m2 {dp x : Nat} (h : dp ≤ 8) : x % 2 ^ dp < 256 := Nat.lt_of_lt_of_le (Nat.mod_lt _ (Nat.two_pow_pos _)) (p2_le h)
theorem p8 {dp : Nat} (h : dp ≤ 8) : 2 ^ dp ≤ 256 := p2_le h
theorem p7 {dp : Nat} (h : dp < 8) : 2 ^ dp ≤ 128 := p2_le (c := 7) (by omega)
theorem xrow_lt {ldp : Nat → Nat} {dp kx : Nat} (h : dp ≤ 8) : xrow ldp dp kx < 256 := Nat.lt_of_le_of_lt (Nat.mod_le _ _) (m2 h)
def bdy (ldp : Nat → Nat) (sl : Nat) : Nat := (sl % 2 ^ ldp sl) ^^^ 2 ^ (ldp sl - 1)
theorem bdy_lt {ldp : Nat → Nat} {sl : Nat} (h : ldp sl ≤ 8) (h0 : 0 < ldp sl) : bdy ldp sl < 256 :=
  Nat.xor_lt_two_pow (n := 8) (m2 h) (Nat.pow_lt_pow_right (by decide) (by omega))
theorem nI_s1 (x : Int32) (a : Nat) : x + nI a + nI 1 = x + nI (a + 1) := by rw [Int32.add_assoc, nI_add]
theorem nI_z (x : Int32) : x + nI 0 = x := by rw [nI_0]; exact Int32.add_zero x

theorem sd_step {ldp ldp1 : Nat → Nat} {i bits row dd q : Nat} (h : i % 2 ^ bits = row) (hq : ∀ q, ldp1 q = if q < i ∧ q % 2 ^ bits = row then dd else ldp q) : va_up ldp1 i dd q = if q < i + 1 ∧ q % 2 ^ bits = row then dd else ldp q := by
  by_cases z : q = i
  · subst z; rw [up_s, if_pos ⟨by omega, h⟩]
  · rw [up_n _ _ z, hq q]
    by_cases z2 : q < i ∧ q % 2 ^ bits = row
    · rw [if_pos z2, if_pos ⟨by omega, z2.2⟩]
    · rw [if_neg z2, if_neg (fun z3 => z2 ⟨by omega, z3.2⟩)]
theorem sd_no {ldp : Nat → Nat} {i bits row dd q : Nat} (h : i % 2 ^ bits ≠ row) : (if q < i ∧ q % 2 ^ bits = row then dd else ldp q) = if q < i + 1 ∧ q % 2 ^ bits = row then dd else ldp q := by
  by_cases z : q = i
  · subst z; rw [if_neg (fun z3 => h z3.2), if_neg (fun z3 => h z3.2)]
  · by_cases z2 : q < i ∧ q % 2 ^ bits = row
    · rw [if_pos z2, if_pos ⟨by omega, z2.2⟩]
    · rw [if_neg z2, if_neg (fun z3 => z2 ⟨by omega, z3.2⟩)]

theorem dX0_countSlots_0 : decode cX0_countSlots 0 = .ok (.iconst 1, 1) := by decide +kernel
theorem dX0_countSlots_1 : decode cX0_countSlots 1 = .ok (.aload_n 0, 1) := by decide +kernel
theorem dX0_countSlots_2 : decode cX0_countSlots 2 = .ok (.getfield 15, 3) := by decide +kernel
theorem dX0_countSlots_5 : decode cX0_countSlots 5 = .ok (.ishl, 1) := by decide +kernel
theorem dX0_countSlots_6 : decode cX0_countSlots 6 = .ok (.ireturn, 1) := by decide +kernel
theorem dX0_depthAt_0 : decode cX0_depthAt 0 = .ok (.iload_n 1, 1) := by decide +kernel
theorem dX0_depthAt_1 : decode cX0_depthAt 1 = .ok (.invokestatic 52, 3) := by decide +kernel
theorem dX0_depthAt_4 : decode cX0_depthAt 4 = .ok (.ifCond .eq 12, 3) := by decide +kernel
theorem dX0_depthAt_7 : decode cX0_depthAt 7 = .ok (.aload_n 0, 1) := by decide +kernel
theorem dX0_depthAt_8 : decode cX0_depthAt 8 = .ok (.getfield 9, 3) := by decide +kernel
theorem dX0_depthAt_11 : decode cX0_depthAt 11 = .ok (.iload_n 1, 1) := by decide +kernel
theorem dX0_depthAt_12 : decode cX0_depthAt 12 = .ok (.iaload, 1) := by decide +kernel
theorem dX0_depthAt_13 : decode cX0_depthAt 13 = .ok (.goto 4, 3) := by decide +kernel
theorem dX0_depthAt_16 : decode cX0_depthAt 16 = .ok (.iconst 0, 1) := by decide +kernel
theorem dX0_depthAt_17 : decode cX0_depthAt 17 = .ok (.ireturn, 1) := by decide +kernel
theorem dX0_slotFor_0 : decode cX0_slotFor 0 = .ok (.iload_n 1, 1) := by decide +kernel
theorem dX0_slotFor_1 : decode cX0_slotFor 1 = .ok (.invokestatic 56, 3) := by decide +kernel
theorem dX0_slotFor_4 : decode cX0_slotFor 4 = .ok (.aload_n 0, 1) := by decide +kernel
theorem dX0_slotFor_5 : decode cX0_slotFor 5 = .ok (.getfield 15, 3) := by decide +kernel
theorem dX0_slotFor_8 : decode cX0_slotFor 8 = .ok (.invokestatic 59, 3) := by decide +kernel
theorem dX0_slotFor_11 : decode cX0_slotFor 11 = .ok (.ireturn, 1) := by decide +kernel
theorem dX0_rowAt_0 : decode cX0_rowAt 0 = .ok (.iload_n 1, 1) := by decide +kernel
theorem dX0_rowAt_1 : decode cX0_rowAt 1 = .ok (.aload_n 0, 1) := by decide +kernel
theorem dX0_rowAt_2 : decode cX0_rowAt 2 = .ok (.iload_n 1, 1) := by decide +kernel
theorem dX0_rowAt_3 : decode cX0_rowAt 3 = .ok (.invokevirtual 63, 3) := by decide +kernel
theorem dX0_rowAt_6 : decode cX0_rowAt 6 = .ok (.invokestatic 59, 3) := by decide +kernel
theorem dX0_rowAt_9 : decode cX0_rowAt 9 = .ok (.ireturn, 1) := by decide +kernel
theorem dX0_rowFor_0 : decode cX0_rowFor 0 = .ok (.aload_n 0, 1) := by decide +kernel
theorem dX0_rowFor_1 : decode cX0_rowFor 1 = .ok (.aload_n 0, 1) := by decide +kernel
theorem dX0_rowFor_2 : decode cX0_rowFor 2 = .ok (.iload_n 1, 1) := by decide +kernel
theorem dX0_rowFor_3 : decode cX0_rowFor 3 = .ok (.invokevirtual 66, 3) := by decide +kernel
theorem dX0_rowFor_6 : decode cX0_rowFor 6 = .ok (.invokevirtual 48, 3) := by decide +kernel
theorem dX0_rowFor_9 : decode cX0_rowFor 9 = .ok (.ireturn, 1) := by decide +kernel
theorem dX0_find_0 : decode cX0_find 0 = .ok (.aload_n 0, 1) := by decide +kernel
theorem dX0_find_1 : decode cX0_find 1 = .ok (.getfield 40, 3) := by decide +kernel
theorem dX0_find_4 : decode cX0_find 4 = .ok (.aload_n 0, 1) := by decide +kernel
theorem dX0_find_5 : decode cX0_find 5 = .ok (.iload_n 1, 1) := by decide +kernel
theorem dX0_find_6 : decode cX0_find 6 = .ok (.invokevirtual 69, 3) := by decide +kernel
theorem dX0_find_9 : decode cX0_find 9 = .ok (.iload_n 1, 1) := by decide +kernel
theorem dX0_find_10 : decode cX0_find 10 = .ok (.invokevirtual 72, 3) := by decide +kernel
theorem dX0_find_13 : decode cX0_find 13 = .ok (.ireturn, 1) := by decide +kernel
theorem dX0_buddyAt_0 : decode cX0_buddyAt 0 = .ok (.aload_n 0, 1) := by decide +kernel
theorem dX0_buddyAt_1 : decode cX0_buddyAt 1 = .ok (.iload_n 1, 1) := by decide +kernel
theorem dX0_buddyAt_2 : decode cX0_buddyAt 2 = .ok (.invokevirtual 63, 3) := by decide +kernel
theorem dX0_buddyAt_5 : decode cX0_buddyAt 5 = .ok (.istore_n 2, 1) := by decide +kernel
theorem dX0_buddyAt_6 : decode cX0_buddyAt 6 = .ok (.iload_n 2, 1) := by decide +kernel
theorem dX0_buddyAt_7 : decode cX0_buddyAt 7 = .ok (.ifCond .gt 5, 3) := by decide +kernel
theorem dX0_buddyAt_10 : decode cX0_buddyAt 10 = .ok (.iconst (-1), 1) := by decide +kernel
theorem dX0_buddyAt_11 : decode cX0_buddyAt 11 = .ok (.ireturn, 1) := by decide +kernel
theorem dX0_buddyAt_12 : decode cX0_buddyAt 12 = .ok (.iload_n 1, 1) := by decide +kernel
theorem dX0_buddyAt_13 : decode cX0_buddyAt 13 = .ok (.iload_n 2, 1) := by decide +kernel
theorem dX0_buddyAt_14 : decode cX0_buddyAt 14 = .ok (.invokestatic 59, 3) := by decide +kernel
theorem dX0_buddyAt_17 : decode cX0_buddyAt 17 = .ok (.iconst 1, 1) := by decide +kernel
theorem dX0_buddyAt_18 : decode cX0_buddyAt 18 = .ok (.iload_n 2, 1) := by decide +kernel
theorem dX0_buddyAt_19 : decode cX0_buddyAt 19 = .ok (.iconst 1, 1) := by decide +kernel
theorem dX0_buddyAt_20 : decode cX0_buddyAt 20 = .ok (.isub, 1) := by decide +kernel
theorem dX0_buddyAt_21 : decode cX0_buddyAt 21 = .ok (.ishl, 1) := by decide +kernel
theorem dX0_buddyAt_22 : decode cX0_buddyAt 22 = .ok (.ixor, 1) := by decide +kernel
theorem dX0_buddyAt_23 : decode cX0_buddyAt 23 = .ok (.istore_n 3, 1) := by decide +kernel
theorem dX0_buddyAt_24 : decode cX0_buddyAt 24 = .ok (.aload_n 0, 1) := by decide +kernel
theorem dX0_buddyAt_25 : decode cX0_buddyAt 25 = .ok (.iload_n 3, 1) := by decide +kernel
theorem dX0_buddyAt_26 : decode cX0_buddyAt 26 = .ok (.invokevirtual 63, 3) := by decide +kernel
theorem dX0_buddyAt_29 : decode cX0_buddyAt 29 = .ok (.iload_n 2, 1) := by decide +kernel
theorem dX0_buddyAt_30 : decode cX0_buddyAt 30 = .ok (.if_icmp .ne 7, 3) := by decide +kernel
theorem dX0_buddyAt_33 : decode cX0_buddyAt 33 = .ok (.iload_n 3, 1) := by decide +kernel
theorem dX0_buddyAt_34 : decode cX0_buddyAt 34 = .ok (.goto 4, 3) := by decide +kernel
theorem dX0_buddyAt_37 : decode cX0_buddyAt 37 = .ok (.iconst (-1), 1) := by decide +kernel
theorem dX0_buddyAt_38 : decode cX0_buddyAt 38 = .ok (.ireturn, 1) := by decide +kernel
theorem dX0_setDepth_0 : decode cX0_setDepth 0 = .ok (.iload_n 1, 1) := by decide +kernel
theorem dX0_setDepth_1 : decode cX0_setDepth 1 = .ok (.invokestatic 52, 3) := by decide +kernel
theorem dX0_setDepth_4 : decode cX0_setDepth 4 = .ok (.ifCond .eq 10, 3) := by decide +kernel
theorem dX0_setDepth_7 : decode cX0_setDepth 7 = .ok (.aload_n 0, 1) := by decide +kernel
theorem dX0_setDepth_8 : decode cX0_setDepth 8 = .ok (.getfield 9, 3) := by decide +kernel
theorem dX0_setDepth_11 : decode cX0_setDepth 11 = .ok (.iload_n 1, 1) := by decide +kernel
theorem dX0_setDepth_12 : decode cX0_setDepth 12 = .ok (.iload_n 2, 1) := by decide +kernel
theorem dX0_setDepth_13 : decode cX0_setDepth 13 = .ok (.iastore, 1) := by decide +kernel
theorem dX0_setDepth_14 : decode cX0_setDepth 14 = .ok (.return_, 1) := by decide +kernel
theorem dX0_setDepths_0 : decode cX0_setDepths 0 = .ok (.aload_n 0, 1) := by decide +kernel
theorem dX0_setDepths_1 : decode cX0_setDepths 1 = .ok (.invokevirtual 44, 3) := by decide +kernel
theorem dX0_setDepths_4 : decode cX0_setDepths 4 = .ok (.istore 4, 2) := by decide +kernel
theorem dX0_setDepths_6 : decode cX0_setDepths 6 = .ok (.iload_n 1, 1) := by decide +kernel
theorem dX0_setDepths_7 : decode cX0_setDepths 7 = .ok (.istore 5, 2) := by decide +kernel
theorem dX0_setDepths_9 : decode cX0_setDepths 9 = .ok (.iload 5, 2) := by decide +kernel
theorem dX0_setDepths_11 : decode cX0_setDepths 11 = .ok (.iload 4, 2) := by decide +kernel
theorem dX0_setDepths_13 : decode cX0_setDepths 13 = .ok (.if_icmp .ge 26, 3) := by decide +kernel
theorem dX0_setDepths_16 : decode cX0_setDepths 16 = .ok (.iload 5, 2) := by decide +kernel
theorem dX0_setDepths_18 : decode cX0_setDepths 18 = .ok (.iload_n 2, 1) := by decide +kernel
theorem dX0_setDepths_19 : decode cX0_setDepths 19 = .ok (.invokestatic 59, 3) := by decide +kernel
theorem dX0_setDepths_22 : decode cX0_setDepths 22 = .ok (.iload_n 1, 1) := by decide +kernel
theorem dX0_setDepths_23 : decode cX0_setDepths 23 = .ok (.if_icmp .ne 10, 3) := by decide +kernel
theorem dX0_setDepths_26 : decode cX0_setDepths 26 = .ok (.aload_n 0, 1) := by decide +kernel
theorem dX0_setDepths_27 : decode cX0_setDepths 27 = .ok (.iload 5, 2) := by decide +kernel
theorem dX0_setDepths_29 : decode cX0_setDepths 29 = .ok (.iload_n 3, 1) := by decide +kernel
theorem dX0_setDepths_30 : decode cX0_setDepths 30 = .ok (.invokevirtual 105, 3) := by decide +kernel
theorem dX0_setDepths_33 : decode cX0_setDepths 33 = .ok (.iinc 5 1, 3) := by decide +kernel
theorem dX0_setDepths_36 : decode cX0_setDepths 36 = .ok (.goto (-27), 3) := by decide +kernel
theorem dX0_setDepths_39 : decode cX0_setDepths 39 = .ok (.return_, 1) := by decide +kernel
theorem dX0_doubleDirectory_0 : decode cX0_doubleDirectory 0 = .ok (.aload_n 0, 1) := by decide +kernel
theorem dX0_doubleDirectory_1 : decode cX0_doubleDirectory 1 = .ok (.invokevirtual 44, 3) := by decide +kernel
theorem dX0_doubleDirectory_4 : decode cX0_doubleDirectory 4 = .ok (.istore_n 1, 1) := by decide +kernel
theorem dX0_doubleDirectory_5 : decode cX0_doubleDirectory 5 = .ok (.iconst 0, 1) := by decide +kernel
theorem dX0_doubleDirectory_6 : decode cX0_doubleDirectory 6 = .ok (.istore_n 2, 1) := by decide +kernel
theorem dX0_doubleDirectory_7 : decode cX0_doubleDirectory 7 = .ok (.iload_n 2, 1) := by decide +kernel
theorem dX0_doubleDirectory_8 : decode cX0_doubleDirectory 8 = .ok (.iload_n 1, 1) := by decide +kernel
theorem dX0_doubleDirectory_9 : decode cX0_doubleDirectory 9 = .ok (.if_icmp .ge 21, 3) := by decide +kernel
theorem dX0_doubleDirectory_12 : decode cX0_doubleDirectory 12 = .ok (.aload_n 0, 1) := by decide +kernel
theorem dX0_doubleDirectory_13 : decode cX0_doubleDirectory 13 = .ok (.iload_n 2, 1) := by decide +kernel
theorem dX0_doubleDirectory_14 : decode cX0_doubleDirectory 14 = .ok (.iload_n 1, 1) := by decide +kernel
theorem dX0_doubleDirectory_15 : decode cX0_doubleDirectory 15 = .ok (.iadd, 1) := by decide +kernel
theorem dX0_doubleDirectory_16 : decode cX0_doubleDirectory 16 = .ok (.aload_n 0, 1) := by decide +kernel
theorem dX0_doubleDirectory_17 : decode cX0_doubleDirectory 17 = .ok (.iload_n 2, 1) := by decide +kernel
theorem dX0_doubleDirectory_18 : decode cX0_doubleDirectory 18 = .ok (.invokevirtual 63, 3) := by decide +kernel
theorem dX0_doubleDirectory_21 : decode cX0_doubleDirectory 21 = .ok (.invokevirtual 105, 3) := by decide +kernel
theorem dX0_doubleDirectory_24 : decode cX0_doubleDirectory 24 = .ok (.iinc 2 1, 3) := by decide +kernel
theorem dX0_doubleDirectory_27 : decode cX0_doubleDirectory 27 = .ok (.goto (-20), 3) := by decide +kernel
theorem dX0_doubleDirectory_30 : decode cX0_doubleDirectory 30 = .ok (.aload_n 0, 1) := by decide +kernel
theorem dX0_doubleDirectory_31 : decode cX0_doubleDirectory 31 = .ok (.dup, 1) := by decide +kernel
theorem dX0_doubleDirectory_32 : decode cX0_doubleDirectory 32 = .ok (.getfield 15, 3) := by decide +kernel
theorem dX0_doubleDirectory_35 : decode cX0_doubleDirectory 35 = .ok (.iconst 1, 1) := by decide +kernel
theorem dX0_doubleDirectory_36 : decode cX0_doubleDirectory 36 = .ok (.iadd, 1) := by decide +kernel
theorem dX0_doubleDirectory_37 : decode cX0_doubleDirectory 37 = .ok (.putfield 15, 3) := by decide +kernel
theorem dX0_doubleDirectory_40 : decode cX0_doubleDirectory 40 = .ok (.aload_n 0, 1) := by decide +kernel
theorem dX0_doubleDirectory_41 : decode cX0_doubleDirectory 41 = .ok (.dup, 1) := by decide +kernel
theorem dX0_doubleDirectory_42 : decode cX0_doubleDirectory 42 = .ok (.getfield 19, 3) := by decide +kernel
theorem dX0_doubleDirectory_45 : decode cX0_doubleDirectory 45 = .ok (.iconst 1, 1) := by decide +kernel
theorem dX0_doubleDirectory_46 : decode cX0_doubleDirectory 46 = .ok (.iadd, 1) := by decide +kernel
theorem dX0_doubleDirectory_47 : decode cX0_doubleDirectory 47 = .ok (.putfield 19, 3) := by decide +kernel
theorem dX0_doubleDirectory_50 : decode cX0_doubleDirectory 50 = .ok (.return_, 1) := by decide +kernel
theorem dX0_hasDepth_0 : decode cX0_hasDepth 0 = .ok (.aload_n 0, 1) := by decide +kernel
theorem dX0_hasDepth_1 : decode cX0_hasDepth 1 = .ok (.invokevirtual 44, 3) := by decide +kernel
theorem dX0_hasDepth_4 : decode cX0_hasDepth 4 = .ok (.istore_n 2, 1) := by decide +kernel
theorem dX0_hasDepth_5 : decode cX0_hasDepth 5 = .ok (.iconst 0, 1) := by decide +kernel
theorem dX0_hasDepth_6 : decode cX0_hasDepth 6 = .ok (.istore_n 3, 1) := by decide +kernel
theorem dX0_hasDepth_7 : decode cX0_hasDepth 7 = .ok (.iload_n 3, 1) := by decide +kernel
theorem dX0_hasDepth_8 : decode cX0_hasDepth 8 = .ok (.iload_n 2, 1) := by decide +kernel
theorem dX0_hasDepth_9 : decode cX0_hasDepth 9 = .ok (.if_icmp .ge 20, 3) := by decide +kernel
theorem dX0_hasDepth_12 : decode cX0_hasDepth 12 = .ok (.aload_n 0, 1) := by decide +kernel
theorem dX0_hasDepth_13 : decode cX0_hasDepth 13 = .ok (.iload_n 3, 1) := by decide +kernel
theorem dX0_hasDepth_14 : decode cX0_hasDepth 14 = .ok (.invokevirtual 63, 3) := by decide +kernel
theorem dX0_hasDepth_17 : decode cX0_hasDepth 17 = .ok (.iload_n 1, 1) := by decide +kernel
theorem dX0_hasDepth_18 : decode cX0_hasDepth 18 = .ok (.if_icmp .ne 5, 3) := by decide +kernel
theorem dX0_hasDepth_21 : decode cX0_hasDepth 21 = .ok (.iconst 1, 1) := by decide +kernel
theorem dX0_hasDepth_22 : decode cX0_hasDepth 22 = .ok (.ireturn, 1) := by decide +kernel
theorem dX0_hasDepth_23 : decode cX0_hasDepth 23 = .ok (.iinc 3 1, 3) := by decide +kernel
theorem dX0_hasDepth_26 : decode cX0_hasDepth 26 = .ok (.goto (-19), 3) := by decide +kernel
theorem dX0_hasDepth_29 : decode cX0_hasDepth 29 = .ok (.iconst 0, 1) := by decide +kernel
theorem dX0_hasDepth_30 : decode cX0_hasDepth 30 = .ok (.ireturn, 1) := by decide +kernel
theorem dX0_halveWhilePossible_0 : decode cX0_halveWhilePossible 0 = .ok (.aload_n 0, 1) := by decide +kernel
theorem dX0_halveWhilePossible_1 : decode cX0_halveWhilePossible 1 = .ok (.getfield 15, 3) := by decide +kernel
theorem dX0_halveWhilePossible_4 : decode cX0_halveWhilePossible 4 = .ok (.istore_n 1, 1) := by decide +kernel
theorem dX0_halveWhilePossible_5 : decode cX0_halveWhilePossible 5 = .ok (.iload_n 1, 1) := by decide +kernel
theorem dX0_halveWhilePossible_6 : decode cX0_halveWhilePossible 6 = .ok (.ifCond .le 34, 3) := by decide +kernel
theorem dX0_halveWhilePossible_9 : decode cX0_halveWhilePossible 9 = .ok (.aload_n 0, 1) := by decide +kernel
theorem dX0_halveWhilePossible_10 : decode cX0_halveWhilePossible 10 = .ok (.iload_n 1, 1) := by decide +kernel
theorem dX0_halveWhilePossible_11 : decode cX0_halveWhilePossible 11 = .ok (.invokevirtual 128, 3) := by decide +kernel
theorem dX0_halveWhilePossible_14 : decode cX0_halveWhilePossible 14 = .ok (.ifCond .ne 26, 3) := by decide +kernel
theorem dX0_halveWhilePossible_17 : decode cX0_halveWhilePossible 17 = .ok (.aload_n 0, 1) := by decide +kernel
theorem dX0_halveWhilePossible_18 : decode cX0_halveWhilePossible 18 = .ok (.iload_n 1, 1) := by decide +kernel
theorem dX0_halveWhilePossible_19 : decode cX0_halveWhilePossible 19 = .ok (.iconst 1, 1) := by decide +kernel
theorem dX0_halveWhilePossible_20 : decode cX0_halveWhilePossible 20 = .ok (.isub, 1) := by decide +kernel
theorem dX0_halveWhilePossible_21 : decode cX0_halveWhilePossible 21 = .ok (.putfield 15, 3) := by decide +kernel
theorem dX0_halveWhilePossible_24 : decode cX0_halveWhilePossible 24 = .ok (.aload_n 0, 1) := by decide +kernel
theorem dX0_halveWhilePossible_25 : decode cX0_halveWhilePossible 25 = .ok (.dup, 1) := by decide +kernel
theorem dX0_halveWhilePossible_26 : decode cX0_halveWhilePossible 26 = .ok (.getfield 22, 3) := by decide +kernel
theorem dX0_halveWhilePossible_29 : decode cX0_halveWhilePossible 29 = .ok (.iconst 1, 1) := by decide +kernel
theorem dX0_halveWhilePossible_30 : decode cX0_halveWhilePossible 30 = .ok (.iadd, 1) := by decide +kernel
theorem dX0_halveWhilePossible_31 : decode cX0_halveWhilePossible 31 = .ok (.putfield 22, 3) := by decide +kernel
theorem dX0_halveWhilePossible_34 : decode cX0_halveWhilePossible 34 = .ok (.iinc 1 (-1), 3) := by decide +kernel
theorem dX0_halveWhilePossible_37 : decode cX0_halveWhilePossible 37 = .ok (.goto (-32), 3) := by decide +kernel
theorem dX0_halveWhilePossible_40 : decode cX0_halveWhilePossible 40 = .ok (.return_, 1) := by decide +kernel
theorem dX0_canMerge_0 : decode cX0_canMerge 0 = .ok (.aload_n 0, 1) := by decide +kernel
theorem dX0_canMerge_1 : decode cX0_canMerge 1 = .ok (.iload_n 1, 1) := by decide +kernel
theorem dX0_canMerge_2 : decode cX0_canMerge 2 = .ok (.invokevirtual 122, 3) := by decide +kernel
theorem dX0_canMerge_5 : decode cX0_canMerge 5 = .ok (.istore_n 2, 1) := by decide +kernel
theorem dX0_canMerge_6 : decode cX0_canMerge 6 = .ok (.iload_n 2, 1) := by decide +kernel
theorem dX0_canMerge_7 : decode cX0_canMerge 7 = .ok (.iconst (-1), 1) := by decide +kernel
theorem dX0_canMerge_8 : decode cX0_canMerge 8 = .ok (.if_icmp .eq 34, 3) := by decide +kernel
theorem dX0_canMerge_11 : decode cX0_canMerge 11 = .ok (.aload_n 0, 1) := by decide +kernel
theorem dX0_canMerge_12 : decode cX0_canMerge 12 = .ok (.getfield 40, 3) := by decide +kernel
theorem dX0_canMerge_15 : decode cX0_canMerge 15 = .ok (.iload_n 1, 1) := by decide +kernel
theorem dX0_canMerge_16 : decode cX0_canMerge 16 = .ok (.invokevirtual 80, 3) := by decide +kernel
theorem dX0_canMerge_19 : decode cX0_canMerge 19 = .ok (.aload_n 0, 1) := by decide +kernel
theorem dX0_canMerge_20 : decode cX0_canMerge 20 = .ok (.getfield 40, 3) := by decide +kernel
theorem dX0_canMerge_23 : decode cX0_canMerge 23 = .ok (.iload_n 2, 1) := by decide +kernel
theorem dX0_canMerge_24 : decode cX0_canMerge 24 = .ok (.invokevirtual 80, 3) := by decide +kernel
theorem dX0_canMerge_27 : decode cX0_canMerge 27 = .ok (.iadd, 1) := by decide +kernel
theorem dX0_canMerge_28 : decode cX0_canMerge 28 = .ok (.aload_n 0, 1) := by decide +kernel
theorem dX0_canMerge_29 : decode cX0_canMerge 29 = .ok (.getfield 31, 3) := by decide +kernel
theorem dX0_canMerge_32 : decode cX0_canMerge 32 = .ok (.getfield 83, 3) := by decide +kernel
theorem dX0_canMerge_35 : decode cX0_canMerge 35 = .ok (.if_icmp .gt 7, 3) := by decide +kernel
theorem dX0_canMerge_38 : decode cX0_canMerge 38 = .ok (.iconst 1, 1) := by decide +kernel
theorem dX0_canMerge_39 : decode cX0_canMerge 39 = .ok (.goto 4, 3) := by decide +kernel
theorem dX0_canMerge_42 : decode cX0_canMerge 42 = .ok (.iconst 0, 1) := by decide +kernel
theorem dX0_canMerge_43 : decode cX0_canMerge 43 = .ok (.ireturn, 1) := by decide +kernel
set_option maxHeartbeats 4000000 in
set_option maxRecDepth 100000 in
theorem c_X0_countSlots (l : Launch) (D : va_G) (cy : ClassId) (a : Nat → Nat) (key : Nat → Nat) (val : Nat → Nat) (ord : Nat → Nat) (tk : Nat) (cp : Nat) (efi : Nat → Nat) (ela : Nat → Nat) (eco : Nat → Nat) (ene : Nat → Nat) (ldp : Nat → Nat) (dp : Nat) (dbl : Int32) (hlv : Int32) (spl : Int32) (mrg : Int32) (lfi : Nat → Nat) (lla : Nat → Nat) (lco : Nat → Nat) (lne : Nat → Nat) (lev : Nat) (ptr : Nat) (llo : Nat) (lhi : Nat) (lsp : Int32)  (hdp : dp ≤ 8)  : tq_F l yX0_countSlots cX0_countSlots 1 (some .int) 0 0 D cy (wC cy a key val ord tk cp efi ela eco ene ldp dp dbl hlv spl mrg lfi lla lco lne lev ptr llo lhi lsp) [.ref (a 2)] (fun r => r = (nI (2 ^ dp))) := by
  refine tq_F.mk (by decide) (Nat.le_of_ble_eq_true rfl) ?_
  intro p e s m args below meth c C hP hK ls hl
  obtain ⟨hx, hb, hml, hown, hrt, hlk, hT⟩ := id C
  have hl : lv_has ls 1 [(0, .ref (a 2))] := hl
  refine lv_iconst (v := nI 1) hx hb dX0_countSlots_0 (by decide) ?_
  refine lv_aload_n hx hb dX0_countSlots_1 rfl (lv_at hl 0 rfl) ?_
  refine tq_get (C0 := RX0) (T := TX0) (N := 8) (ci := 0) (k := 3) C gX0 inX0 rfl (by decide) rfl fl_X0_15 hK hP 2 rfl rfl dX0_countSlots_2 ?_
  refine tq_ishl C (by omega) (by have := p8 hdp; omega) dX0_countSlots_5 ?_
  refine tq_top (y := nI (2 ^ dp)) (by rw [Nat.one_mul]) ?_
  exact tq_fret (v := (nI (2 ^ dp))) C rfl (rfl) dX0_countSlots_6
set_option maxHeartbeats 4000000 in
set_option maxRecDepth 100000 in
theorem c_X0_depthAt (l : Launch) (D : va_G) (cy : ClassId) (a : Nat → Nat) (key : Nat → Nat) (val : Nat → Nat) (ord : Nat → Nat) (tk : Nat) (cp : Nat) (efi : Nat → Nat) (ela : Nat → Nat) (eco : Nat → Nat) (ene : Nat → Nat) (ldp : Nat → Nat) (dp : Nat) (dbl : Int32) (hlv : Int32) (spl : Int32) (mrg : Int32) (lfi : Nat → Nat) (lla : Nat → Nat) (lco : Nat → Nat) (lne : Nat → Nat) (lev : Nat) (ptr : Nat) (llo : Nat) (lhi : Nat) (lsp : Int32) (sl : Nat) (hsl : sl < 256) : tq_F l yX0_depthAt cX0_depthAt 2 (some .int) 1 20 D cy (wC cy a key val ord tk cp efi ela eco ene ldp dp dbl hlv spl mrg lfi lla lco lne lev ptr llo lhi lsp) [.ref (a 2), .int (nI (sl))] (fun r => r = (nI (ldp sl))) := by
  refine tq_F.mk (by decide) (Nat.le_of_ble_eq_true rfl) ?_
  intro p e s m args below meth c C hP hK ls hl
  obtain ⟨hx, hb, hml, hown, hrt, hlk, hT⟩ := id C
  have hl : lv_has ls 2 [(0, .ref (a 2)), (1, .int (nI (sl)))] := hl
  refine lv_iload_n hx hb dX0_depthAt_0 rfl (lv_at hl 1 rfl) ?_
  refine tq_callF (va_runSN C.fix (As := [.int (nI (sl))]) (rest := []) (c_X4_isRow l D cy sl hsl) (tq_cN (n := 1) C mn_X0_52 sm_X4_isRow ini_X4 cd_X4_isRow ⟨by decide, by decide, by decide +kernel⟩ ⟨Nat.le_of_ble_eq_true rfl, Nat.le_of_ble_eq_true rfl⟩) ⟨tq_Pf.blind, tq_preF C hK (hP.sub [] rfl)⟩ rfl rfl hl.1 rfl (lv_room (Nat.le_of_ble_eq_true rfl)) dX0_depthAt_1 ⟨Nat.le_of_ble_eq_true rfl, Nat.le_of_ble_eq_true rfl⟩) (fun r1 hr1 => ?_)
  obtain rfl := hr1
  refine lv_if_eq (tgt := 16) hx hb dX0_depthAt_4 (by decide) (fun h9 => absurd h9 (by decide)) (fun _ => ?_)
  refine lv_aload_n hx hb dX0_depthAt_7 rfl (lv_at hl 0 rfl) ?_
  refine tq_get (C0 := RX0) (T := TX0) (N := 8) (ci := 0) (k := 2) C gX0 inX0 rfl (by decide) rfl fl_X0_9 hK hP 2 rfl rfl dX0_depthAt_8 ?_
  refine lv_iload_n hx hb dX0_depthAt_11 rfl (lv_at hl 1 rfl) ?_
  refine tq_iald (n := 256) (i := sl) (f := ldp) C hK hP 8 0 rfl rfl (by omega) (Nat.le_of_ble_eq_true rfl) dX0_depthAt_12 ?_
  refine lv_goto (tgt := 17) hx hb dX0_depthAt_13 (by decide) ?_
  exact tq_fret (v := (nI (ldp sl))) C rfl (rfl) dX0_depthAt_17
set_option maxHeartbeats 4000000 in
set_option maxRecDepth 100000 in
theorem c_X0_slotFor (l : Launch) (D : va_G) (cy : ClassId) (a : Nat → Nat) (key : Nat → Nat) (val : Nat → Nat) (ord : Nat → Nat) (tk : Nat) (cp : Nat) (efi : Nat → Nat) (ela : Nat → Nat) (eco : Nat → Nat) (ene : Nat → Nat) (ldp : Nat → Nat) (dp : Nat) (dbl : Int32) (hlv : Int32) (spl : Int32) (mrg : Int32) (lfi : Nat → Nat) (lla : Nat → Nat) (lco : Nat → Nat) (lne : Nat → Nat) (lev : Nat) (ptr : Nat) (llo : Nat) (lhi : Nat) (lsp : Int32) (kx : Nat) (hdp : dp ≤ 8) (hkx : kx < 65536) : tq_F l yX0_slotFor cX0_slotFor 2 (some .int) 2 41 D cy (wC cy a key val ord tk cp efi ela eco ene ldp dp dbl hlv spl mrg lfi lla lco lne lev ptr llo lhi lsp) [.ref (a 2), .int (nI (kx))] (fun r => r = (nI (hs kx % 2 ^ dp))) := by
  refine tq_F.mk (by decide) (Nat.le_of_ble_eq_true rfl) ?_
  intro p e s m args below meth c C hP hK ls hl
  obtain ⟨hx, hb, hml, hown, hrt, hlk, hT⟩ := id C
  have hl : lv_has ls 2 [(0, .ref (a 2)), (1, .int (nI (kx)))] := hl
  refine lv_iload_n hx hb dX0_slotFor_0 rfl (lv_at hl 1 rfl) ?_
  refine tq_callF (va_runSN C.fix (As := [.int (nI (kx))]) (rest := []) (c_X4_hash l D cy kx hkx) (tq_cN (n := 1) C mn_X0_56 sm_X4_hash ini_X4 cd_X4_hash ⟨by decide, by decide, by decide +kernel⟩ ⟨Nat.le_of_ble_eq_true rfl, Nat.le_of_ble_eq_true rfl⟩) ⟨tq_Pf.blind, tq_preF C hK (hP.sub [] rfl)⟩ rfl rfl hl.1 rfl (lv_room (Nat.le_of_ble_eq_true rfl)) dX0_slotFor_1 ⟨Nat.le_of_ble_eq_true rfl, Nat.le_of_ble_eq_true rfl⟩) (fun r1 hr1 => ?_)
  obtain rfl := hr1
  refine lv_aload_n hx hb dX0_slotFor_4 rfl (lv_at hl 0 rfl) ?_
  refine tq_get (C0 := RX0) (T := TX0) (N := 8) (ci := 0) (k := 3) C gX0 inX0 rfl (by decide) rfl fl_X0_15 hK hP 2 rfl rfl dX0_slotFor_5 ?_
  refine tq_callF (va_runSN C.fix (As := [.int (nI (hs kx)), .int (nI (dp))]) (rest := []) (c_X4_lowBits l D cy (hs kx) dp (by have := hs_lt kx; omega) (by omega)) (tq_cN (n := 2) C mn_X0_59 sm_X4_lowBits ini_X4 cd_X4_lowBits ⟨by decide, by decide, by decide +kernel⟩ ⟨Nat.le_of_ble_eq_true rfl, Nat.le_of_ble_eq_true rfl⟩) ⟨tq_Pf.blind, tq_preF C hK (hP.sub [] rfl)⟩ rfl rfl hl.1 rfl (lv_room (Nat.le_of_ble_eq_true rfl)) dX0_slotFor_8 ⟨Nat.le_of_ble_eq_true rfl, Nat.le_of_ble_eq_true rfl⟩) (fun r8 hr8 => ?_)
  obtain rfl := hr8
  exact tq_fret (v := (nI ((hs kx) % 2 ^ dp))) C rfl (rfl) dX0_slotFor_11
set_option maxHeartbeats 4000000 in
set_option maxRecDepth 100000 in
theorem c_X0_rowAt (l : Launch) (D : va_G) (cy : ClassId) (a : Nat → Nat) (key : Nat → Nat) (val : Nat → Nat) (ord : Nat → Nat) (tk : Nat) (cp : Nat) (efi : Nat → Nat) (ela : Nat → Nat) (eco : Nat → Nat) (ene : Nat → Nat) (ldp : Nat → Nat) (dp : Nat) (dbl : Int32) (hlv : Int32) (spl : Int32) (mrg : Int32) (lfi : Nat → Nat) (lla : Nat → Nat) (lco : Nat → Nat) (lne : Nat → Nat) (lev : Nat) (ptr : Nat) (llo : Nat) (lhi : Nat) (lsp : Int32) (sl : Nat) (hld : ∀ q, q < 256 → ldp q ≤ 8) (hsl : sl < 256) : tq_F l yX0_rowAt cX0_rowAt 2 (some .int) 2 41 D cy (wC cy a key val ord tk cp efi ela eco ene ldp dp dbl hlv spl mrg lfi lla lco lne lev ptr llo lhi lsp) [.ref (a 2), .int (nI (sl))] (fun r => r = (nI (sl % 2 ^ ldp sl))) := by
  refine tq_F.mk (by decide) (Nat.le_of_ble_eq_true rfl) ?_
  intro p e s m args below meth c C hP hK ls hl
  obtain ⟨hx, hb, hml, hown, hrt, hlk, hT⟩ := id C
  have hl : lv_has ls 2 [(0, .ref (a 2)), (1, .int (nI (sl)))] := hl
  refine lv_iload_n hx hb dX0_rowAt_0 rfl (lv_at hl 1 rfl) ?_
  refine lv_aload_n hx hb dX0_rowAt_1 rfl (lv_at hl 0 rfl) ?_
  refine lv_iload_n hx hb dX0_rowAt_2 rfl (lv_at hl 1 rfl) ?_
  refine tq_callF (va_runV C.fix (As := [.int (nI (sl))]) (rest := [.int (nI (sl))]) (c_X0_depthAt l D cy a key val ord tk cp efi ela eco ene ldp dp dbl hlv spl mrg lfi lla lco lne lev ptr llo lhi lsp sl hsl) (tq_cV (n := 1) C ml_X0_63 im_X0_depthAt se_X0_depthAt ini_X0 cd_X0_depthAt ⟨by decide, by decide, by decide +kernel⟩ ⟨Nat.le_of_ble_eq_true rfl, Nat.le_of_ble_eq_true rfl⟩) ⟨tq_Pf.blind, va_recv hK hP (ci := 0) (q0 := 2) rfl rfl, tq_preF C hK hP⟩ rfl rfl hl.1 rfl (lv_room (Nat.le_of_ble_eq_true rfl)) dX0_rowAt_3 ⟨Nat.le_of_ble_eq_true rfl, Nat.le_of_ble_eq_true rfl⟩) (fun r3 hr3 => ?_)
  obtain rfl := hr3
  refine tq_callF (va_runSN C.fix (As := [.int (nI (sl)), .int (nI (ldp sl))]) (rest := []) (c_X4_lowBits l D cy sl (ldp sl) (by omega) (by have := hld sl hsl; omega)) (tq_cN (n := 2) C mn_X0_59 sm_X4_lowBits ini_X4 cd_X4_lowBits ⟨by decide, by decide, by decide +kernel⟩ ⟨Nat.le_of_ble_eq_true rfl, Nat.le_of_ble_eq_true rfl⟩) ⟨tq_Pf.blind, tq_preF C hK (hP.sub [] rfl)⟩ rfl rfl hl.1 rfl (lv_room (Nat.le_of_ble_eq_true rfl)) dX0_rowAt_6 ⟨Nat.le_of_ble_eq_true rfl, Nat.le_of_ble_eq_true rfl⟩) (fun r6 hr6 => ?_)
  obtain rfl := hr6
  exact tq_fret (v := (nI (sl % 2 ^ (ldp sl)))) C rfl (rfl) dX0_rowAt_9
set_option maxHeartbeats 4000000 in
set_option maxRecDepth 100000 in
theorem c_X0_rowFor (l : Launch) (D : va_G) (cy : ClassId) (a : Nat → Nat) (key : Nat → Nat) (val : Nat → Nat) (ord : Nat → Nat) (tk : Nat) (cp : Nat) (efi : Nat → Nat) (ela : Nat → Nat) (eco : Nat → Nat) (ene : Nat → Nat) (ldp : Nat → Nat) (dp : Nat) (dbl : Int32) (hlv : Int32) (spl : Int32) (mrg : Int32) (lfi : Nat → Nat) (lla : Nat → Nat) (lco : Nat → Nat) (lne : Nat → Nat) (lev : Nat) (ptr : Nat) (llo : Nat) (lhi : Nat) (lsp : Int32) (kx : Nat) (hdp : dp ≤ 8) (hld : ∀ q, q < 256 → ldp q ≤ 8) (hkx : kx < 65536) : tq_F l yX0_rowFor cX0_rowFor 2 (some .int) 3 62 D cy (wC cy a key val ord tk cp efi ela eco ene ldp dp dbl hlv spl mrg lfi lla lco lne lev ptr llo lhi lsp) [.ref (a 2), .int (nI (kx))] (fun r => r = (nI (xrow ldp dp kx))) := by
  refine tq_F.mk (by decide) (Nat.le_of_ble_eq_true rfl) ?_
  intro p e s m args below meth c C hP hK ls hl
  obtain ⟨hx, hb, hml, hown, hrt, hlk, hT⟩ := id C
  have hl : lv_has ls 2 [(0, .ref (a 2)), (1, .int (nI (kx)))] := hl
  refine lv_aload_n hx hb dX0_rowFor_0 rfl (lv_at hl 0 rfl) ?_
  refine lv_aload_n hx hb dX0_rowFor_1 rfl (lv_at hl 0 rfl) ?_
  refine lv_iload_n hx hb dX0_rowFor_2 rfl (lv_at hl 1 rfl) ?_
  refine tq_callF (va_runV C.fix (As := [.int (nI (kx))]) (rest := [.ref (a 2)]) (c_X0_slotFor l D cy a key val ord tk cp efi ela eco ene ldp dp dbl hlv spl mrg lfi lla lco lne lev ptr llo lhi lsp kx hdp hkx) (tq_cV (n := 1) C ml_X0_66 im_X0_slotFor se_X0_slotFor ini_X0 cd_X0_slotFor ⟨by decide, by decide, by decide +kernel⟩ ⟨Nat.le_of_ble_eq_true rfl, Nat.le_of_ble_eq_true rfl⟩) ⟨tq_Pf.blind, va_recv hK hP (ci := 0) (q0 := 2) rfl rfl, tq_preF C hK hP⟩ rfl rfl hl.1 rfl (lv_room (Nat.le_of_ble_eq_true rfl)) dX0_rowFor_3 ⟨Nat.le_of_ble_eq_true rfl, Nat.le_of_ble_eq_true rfl⟩) (fun r3 hr3 => ?_)
  obtain rfl := hr3
  refine tq_callF (va_runV C.fix (As := [.int (nI (hs kx % 2 ^ dp))]) (rest := []) (c_X0_rowAt l D cy a key val ord tk cp efi ela eco ene ldp dp dbl hlv spl mrg lfi lla lco lne lev ptr llo lhi lsp (hs kx % 2 ^ dp) hld (m2 hdp)) (tq_cV (n := 1) C ml_X0_48 im_X0_rowAt se_X0_rowAt ini_X0 cd_X0_rowAt ⟨by decide, by decide, by decide +kernel⟩ ⟨Nat.le_of_ble_eq_true rfl, Nat.le_of_ble_eq_true rfl⟩) ⟨tq_Pf.blind, va_recv hK hP (ci := 0) (q0 := 2) rfl rfl, tq_preF C hK hP⟩ rfl rfl hl.1 rfl (lv_room (Nat.le_of_ble_eq_true rfl)) dX0_rowFor_6 ⟨Nat.le_of_ble_eq_true rfl, Nat.le_of_ble_eq_true rfl⟩) (fun r6 hr6 => ?_)
  obtain rfl := hr6
  exact tq_fret (v := (nI ((hs kx % 2 ^ dp) % 2 ^ ldp (hs kx % 2 ^ dp)))) C rfl (rfl) dX0_rowFor_9
set_option maxHeartbeats 4000000 in
set_option maxRecDepth 100000 in
theorem c_X0_find (l : Launch) (D : va_G) (cy : ClassId) (a : Nat → Nat) (key : Nat → Nat) (val : Nat → Nat) (ord : Nat → Nat) (tk : Nat) (cp : Nat) (efi : Nat → Nat) (ela : Nat → Nat) (eco : Nat → Nat) (ene : Nat → Nat) (ldp : Nat → Nat) (dp : Nat) (dbl : Int32) (hlv : Int32) (spl : Int32) (mrg : Int32) (lfi : Nat → Nat) (lla : Nat → Nat) (lco : Nat → Nat) (lne : Nat → Nat) (lev : Nat) (ptr : Nat) (llo : Nat) (lhi : Nat) (lsp : Int32) (kx : Nat) (hdp : dp ≤ 8) (hld : ∀ q, q < 256 → ldp q ≤ 8) (rows : Nat → List Nat) (hRR : RR efi ela eco ene rows) (hkey : ∀ e, 1 ≤ e → e ≤ 120 → key e < 65536) (hkx : kx < 65536) : tq_F l yX0_find cX0_find 2 (some .int) 4 89 D cy (wC cy a key val ord tk cp efi ela eco ene ldp dp dbl hlv spl mrg lfi lla lco lne lev ptr llo lhi lsp) [.ref (a 2), .int (nI (kx))] (fun r => (∃ en, en ∈ rows (xrow ldp dp kx) ∧ key en = kx ∧ r = nI en) ∨ ((∀ en, en ∈ rows (xrow ldp dp kx) → key en ≠ kx) ∧ r = nI 0)) := by
  refine tq_F.mk (by decide) (Nat.le_of_ble_eq_true rfl) ?_
  intro p e s m args below meth c C hP hK ls hl
  obtain ⟨hx, hb, hml, hown, hrt, hlk, hT⟩ := id C
  have hl : lv_has ls 2 [(0, .ref (a 2)), (1, .int (nI (kx)))] := hl
  refine lv_aload_n hx hb dX0_find_0 rfl (lv_at hl 0 rfl) ?_
  refine tq_get (C0 := RX0) (T := TX0) (N := 8) (ci := 0) (k := 1) C gX0 inX0 rfl (by decide) rfl fl_X0_40 hK hP 2 rfl rfl dX0_find_1 ?_
  refine lv_aload_n hx hb dX0_find_4 rfl (lv_at hl 0 rfl) ?_
  refine lv_iload_n hx hb dX0_find_5 rfl (lv_at hl 1 rfl) ?_
  refine tq_callF (va_runV C.fix (As := [.int (nI (kx))]) (rest := [.ref (a 7)]) (c_X0_rowFor l D cy a key val ord tk cp efi ela eco ene ldp dp dbl hlv spl mrg lfi lla lco lne lev ptr llo lhi lsp kx hdp hld hkx) (tq_cV (n := 1) C ml_X0_69 im_X0_rowFor se_X0_rowFor ini_X0 cd_X0_rowFor ⟨by decide, by decide, by decide +kernel⟩ ⟨Nat.le_of_ble_eq_true rfl, Nat.le_of_ble_eq_true rfl⟩) ⟨tq_Pf.blind, va_recv hK hP (ci := 0) (q0 := 2) rfl rfl, tq_preF C hK hP⟩ rfl rfl hl.1 rfl (lv_room (Nat.le_of_ble_eq_true rfl)) dX0_find_6 ⟨Nat.le_of_ble_eq_true rfl, Nat.le_of_ble_eq_true rfl⟩) (fun r6 hr6 => ?_)
  obtain rfl := hr6
  refine lv_iload_n hx hb dX0_find_9 rfl (lv_at hl 1 rfl) ?_
  refine tq_callF (va_runV C.fix (As := [.int (nI (xrow ldp dp kx)), .int (nI (kx))]) (rest := []) (c_X2_find l D cy (a 7) (a 10) (a 11) (a 12) (a 13) (a 1) (a 4) (a 5) (a 6) efi ela eco ene key tk cp (xrow ldp dp kx) kx rows hRR hkey (xrow_lt hdp) hkx) (tq_cV (n := 2) C ml_X0_72 im_X2_find se_X2_find ini_X2 cd_X2_find ⟨by decide, by decide, by decide +kernel⟩ ⟨Nat.le_of_ble_eq_true rfl, Nat.le_of_ble_eq_true rfl⟩) ⟨tq_Pf.blind, va_recv hK hP (ci := 2) (q0 := 7) rfl rfl, tq_preF C hK (hP.sub [7, 10, 11, 12, 13, 1, 4] rfl)⟩ rfl rfl hl.1 rfl (lv_room (Nat.le_of_ble_eq_true rfl)) dX0_find_10 ⟨Nat.le_of_ble_eq_true rfl, Nat.le_of_ble_eq_true rfl⟩) (fun r10 hr10 => ?_)
  exact tq_fret (v := (r10)) C rfl (hr10) dX0_find_13
set_option maxHeartbeats 4000000 in
set_option maxRecDepth 100000 in
theorem c_X0_buddyAt (l : Launch) (D : va_G) (cy : ClassId) (a : Nat → Nat) (key : Nat → Nat) (val : Nat → Nat) (ord : Nat → Nat) (tk : Nat) (cp : Nat) (efi : Nat → Nat) (ela : Nat → Nat) (eco : Nat → Nat) (ene : Nat → Nat) (ldp : Nat → Nat) (dp : Nat) (dbl : Int32) (hlv : Int32) (spl : Int32) (mrg : Int32) (lfi : Nat → Nat) (lla : Nat → Nat) (lco : Nat → Nat) (lne : Nat → Nat) (lev : Nat) (ptr : Nat) (llo : Nat) (lhi : Nat) (lsp : Int32) (sl : Nat) (hld : ∀ q, q < 256 → ldp q ≤ 8) (hsl : sl < 256) : tq_F l yX0_buddyAt cX0_buddyAt 4 (some .int) 2 41 D cy (wC cy a key val ord tk cp efi ela eco ene ldp dp dbl hlv spl mrg lfi lla lco lne lev ptr llo lhi lsp) [.ref (a 2), .int (nI (sl))] (fun r => (ldp sl = 0 ∧ r = -1) ∨ (0 < ldp sl ∧ ldp (bdy ldp sl) = ldp sl ∧ r = nI (bdy ldp sl)) ∨ (0 < ldp sl ∧ ldp (bdy ldp sl) ≠ ldp sl ∧ r = -1)) := by
  refine tq_F.mk (by decide) (Nat.le_of_ble_eq_true rfl) ?_
  intro p e s m args below meth c C hP hK ls hl
  obtain ⟨hx, hb, hml, hown, hrt, hlk, hT⟩ := id C
  have hl : lv_has ls 4 [(0, .ref (a 2)), (1, .int (nI (sl)))] := hl
  have hl9 := hld sl hsl
  refine lv_aload_n hx hb dX0_buddyAt_0 rfl (lv_at hl 0 rfl) ?_
  refine lv_iload_n hx hb dX0_buddyAt_1 rfl (lv_at hl 1 rfl) ?_
  refine tq_callF (va_runV C.fix (As := [.int (nI (sl))]) (rest := []) (c_X0_depthAt l D cy a key val ord tk cp efi ela eco ene ldp dp dbl hlv spl mrg lfi lla lco lne lev ptr llo lhi lsp sl hsl) (tq_cV (n := 1) C ml_X0_63 im_X0_depthAt se_X0_depthAt ini_X0 cd_X0_depthAt ⟨by decide, by decide, by decide +kernel⟩ ⟨Nat.le_of_ble_eq_true rfl, Nat.le_of_ble_eq_true rfl⟩) ⟨tq_Pf.blind, va_recv hK hP (ci := 0) (q0 := 2) rfl rfl, tq_preF C hK hP⟩ rfl rfl hl.1 rfl (lv_room (Nat.le_of_ble_eq_true rfl)) dX0_buddyAt_2 ⟨Nat.le_of_ble_eq_true rfl, Nat.le_of_ble_eq_true rfl⟩) (fun r2 hr2 => ?_)
  obtain rfl := hr2
  refine lv_istore_n (lv' := [(2, .int (nI (ldp sl))), (0, .ref (a 2)), (1, .int (nI (sl)))]) hx hb dX0_buddyAt_5 rfl hl (by decide) rfl (fun ls hl => ?_)
  refine lv_iload_n hx hb dX0_buddyAt_6 rfl (lv_at hl 0 rfl) ?_
  refine tq_if_gt (tgt := 12) C (by omega) dX0_buddyAt_7 (by decide) (fun h7 => ?_) (fun h7 => ?_)
  · refine lv_iload_n hx hb dX0_buddyAt_12 rfl (lv_at hl 2 rfl) ?_
    refine lv_iload_n hx hb dX0_buddyAt_13 rfl (lv_at hl 0 rfl) ?_
    refine tq_callF (va_runSN C.fix (As := [.int (nI (sl)), .int (nI (ldp sl))]) (rest := []) (c_X4_lowBits l D cy sl (ldp sl) (by omega) (by omega)) (tq_cN (n := 2) C mn_X0_59 sm_X4_lowBits ini_X4 cd_X4_lowBits ⟨by decide, by decide, by decide +kernel⟩ ⟨Nat.le_of_ble_eq_true rfl, Nat.le_of_ble_eq_true rfl⟩) ⟨tq_Pf.blind, tq_preF C hK (hP.sub [] rfl)⟩ rfl rfl hl.1 rfl (lv_room (Nat.le_of_ble_eq_true rfl)) dX0_buddyAt_14 ⟨Nat.le_of_ble_eq_true rfl, Nat.le_of_ble_eq_true rfl⟩) (fun r14 hr14 => ?_)
    obtain rfl := hr14
    refine lv_iconst (v := nI 1) hx hb dX0_buddyAt_17 (by decide) ?_
    refine lv_iload_n hx hb dX0_buddyAt_18 rfl (lv_at hl 0 rfl) ?_
    refine lv_iconst (v := nI 1) hx hb dX0_buddyAt_19 (by decide) ?_
    refine tq_isub C (by omega) dX0_buddyAt_20 ?_
    refine tq_ishl C (by omega) (by have := p7 (dp := ldp sl - 1) (by omega); omega) dX0_buddyAt_21 ?_
    refine tq_top (y := nI (2 ^ ((ldp sl) - 1))) (by rw [Nat.one_mul]) ?_
    refine tq_ixor C (by have := m2 (dp := ldp sl) (x := sl) hl9; omega) (by have := p7 (dp := ldp sl - 1) (by omega); omega) dX0_buddyAt_22 ?_
    have hb9 := bdy_lt hl9 h7
    have hb8 := hld _ hb9
    refine lv_istore_n (lv' := [(3, .int (nI (bdy ldp sl))), (2, .int (nI (ldp sl))), (0, .ref (a 2)), (1, .int (nI (sl)))]) hx hb dX0_buddyAt_23 rfl hl (by decide) rfl (fun ls hl => ?_)
    refine lv_aload_n hx hb dX0_buddyAt_24 rfl (lv_at hl 2 rfl) ?_
    refine lv_iload_n hx hb dX0_buddyAt_25 rfl (lv_at hl 0 rfl) ?_
    refine tq_callF (va_runV C.fix (As := [.int (nI (bdy ldp sl))]) (rest := []) (c_X0_depthAt l D cy a key val ord tk cp efi ela eco ene ldp dp dbl hlv spl mrg lfi lla lco lne lev ptr llo lhi lsp (bdy ldp sl) hb9) (tq_cV (n := 1) C ml_X0_63 im_X0_depthAt se_X0_depthAt ini_X0 cd_X0_depthAt ⟨by decide, by decide, by decide +kernel⟩ ⟨Nat.le_of_ble_eq_true rfl, Nat.le_of_ble_eq_true rfl⟩) ⟨tq_Pf.blind, va_recv hK hP (ci := 0) (q0 := 2) rfl rfl, tq_preF C hK hP⟩ rfl rfl hl.1 rfl (lv_room (Nat.le_of_ble_eq_true rfl)) dX0_buddyAt_26 ⟨Nat.le_of_ble_eq_true rfl, Nat.le_of_ble_eq_true rfl⟩) (fun r26 hr26 => ?_)
    obtain rfl := hr26
    refine lv_iload_n hx hb dX0_buddyAt_29 rfl (lv_at hl 1 rfl) ?_
    refine tq_icmp_ne (tgt := 37) C (by omega) (by omega) dX0_buddyAt_30 (by decide) (fun h30 => ?_) (fun h30 => ?_)
    · refine lv_iconst (v := (-1)) hx hb dX0_buddyAt_37 (by decide) ?_
      exact tq_fret (v := ((-1))) C rfl (Or.inr (Or.inr ⟨h7, h30, rfl⟩)) dX0_buddyAt_38
    · refine lv_iload_n hx hb dX0_buddyAt_33 rfl (lv_at hl 0 rfl) ?_
      refine lv_goto (tgt := 38) hx hb dX0_buddyAt_34 (by decide) ?_
      exact tq_fret (v := (nI (bdy ldp sl))) C rfl (Or.inr (Or.inl ⟨h7, h30, rfl⟩)) dX0_buddyAt_38
  · refine lv_iconst (v := (-1)) hx hb dX0_buddyAt_10 (by decide) ?_
    exact tq_fret (v := ((-1))) C rfl (Or.inl ⟨h7, rfl⟩) dX0_buddyAt_11
set_option maxHeartbeats 4000000 in
set_option maxRecDepth 100000 in
theorem c_X0_setDepth (l : Launch) (D : va_G) (cy : ClassId) (a : Nat → Nat) (key : Nat → Nat) (val : Nat → Nat) (ord : Nat → Nat) (tk : Nat) (cp : Nat) (efi : Nat → Nat) (ela : Nat → Nat) (eco : Nat → Nat) (ene : Nat → Nat) (ldp : Nat → Nat) (dp : Nat) (dbl : Int32) (hlv : Int32) (spl : Int32) (mrg : Int32) (lfi : Nat → Nat) (lla : Nat → Nat) (lco : Nat → Nat) (lne : Nat → Nat) (lev : Nat) (ptr : Nat) (llo : Nat) (lhi : Nat) (lsp : Int32) (sl : Nat) (dd : Nat) (hsl : sl < 256) : tq_V (S := Unit) l yX0_setDepth cX0_setDepth 3 1 20 0 0 D cy (wC cy a key val ord tk cp efi ela eco ene ldp dp dbl hlv spl mrg lfi lla lco lne lev ptr llo lhi lsp) [.ref (a 2), .int (nI (sl)), .int (nI (dd))] (fun _ => True) (fun u => (wC cy a key val ord tk cp efi ela eco ene (va_up ldp sl dd) dp dbl hlv spl mrg lfi lla lco lne lev ptr llo lhi lsp)) := by
  refine tq_V.mk (by decide) (Nat.le_of_ble_eq_true rfl) ?_
  intro p e s m args below meth c A C hin hP hK hD hS hA ls hl
  obtain ⟨hx, hb, hml, hown, hrt, hlk, hT⟩ := id C
  have hl : lv_has ls 3 [(0, .ref (a 2)), (1, .int (nI (sl))), (2, .int (nI (dd)))] := hl
  refine lv_iload_n hx hb dX0_setDepth_0 rfl (lv_at hl 1 rfl) ?_
  refine tq_callF (va_runSN C.fix (As := [.int (nI (sl))]) (rest := []) (c_X4_isRow l D cy sl hsl) (tq_cN (n := 1) C mn_X0_52 sm_X4_isRow ini_X4 cd_X4_isRow ⟨by decide, by decide, by decide +kernel⟩ ⟨Nat.le_of_ble_eq_true rfl, Nat.le_of_ble_eq_true rfl⟩) ⟨tq_Pf.blind, tq_preF C hK (hP.sub [] rfl)⟩ rfl rfl hl.1 rfl (lv_room (Nat.le_of_ble_eq_true rfl)) dX0_setDepth_1 ⟨Nat.le_of_ble_eq_true rfl, Nat.le_of_ble_eq_true rfl⟩) (fun r1 hr1 => ?_)
  obtain rfl := hr1
  refine lv_if_eq (tgt := 14) hx hb dX0_setDepth_4 (by decide) (fun h9 => absurd h9 (by decide)) (fun _ => ?_)
  refine lv_aload_n hx hb dX0_setDepth_7 rfl (lv_at hl 0 rfl) ?_
  refine tq_get (C0 := RX0) (T := TX0) (N := 8) (ci := 0) (k := 2) C gX0 inX0 rfl (by decide) rfl fl_X0_9 hK hP 2 rfl rfl dX0_setDepth_8 ?_
  refine lv_iload_n hx hb dX0_setDepth_11 rfl (lv_at hl 1 rfl) ?_
  refine lv_iload_n hx hb dX0_setDepth_12 rfl (lv_at hl 2 rfl) ?_
  refine tq_iast (n := 256) (i := sl) (v := dd) (f := ldp) C hK hP hD hS 8 0 rfl rfl (by omega) (Nat.le_of_ble_eq_true rfl) dX0_setDepth_13 (fun H locs hP hD hS => ?_)
  have hP : va_P D vwCl (wC cy a key val ord tk cp efi ela eco ene (va_up ldp sl dd) dp dbl hlv spl mrg lfi lla lco lne lev ptr llo lhi lsp) H := hP
  have hD : va_D A (wC cy a key val ord tk cp efi ela eco ene (va_up ldp sl dd) dp dbl hlv spl mrg lfi lla lco lne lev ptr llo lhi lsp) := hD
  exact tq_vret C () hP hD hS (trivial) (Nat.le_of_ble_eq_true rfl) (Nat.le_of_ble_eq_true rfl) dX0_setDepth_14
set_option maxHeartbeats 4000000 in
set_option maxRecDepth 100000 in
theorem c_X0_setDepths (l : Launch) (D : va_G) (cy : ClassId) (a : Nat → Nat) (key : Nat → Nat) (val : Nat → Nat) (ord : Nat → Nat) (tk : Nat) (cp : Nat) (efi : Nat → Nat) (ela : Nat → Nat) (eco : Nat → Nat) (ene : Nat → Nat) (ldp : Nat → Nat) (dp : Nat) (dbl : Int32) (hlv : Int32) (spl : Int32) (mrg : Int32) (lfi : Nat → Nat) (lla : Nat → Nat) (lco : Nat → Nat) (lne : Nat → Nat) (lev : Nat) (ptr : Nat) (llo : Nat) (lhi : Nat) (lsp : Int32) (row : Nat) (bits : Nat) (dd : Nat) (hdp : dp ≤ 8) (hrow : row < 2 ^ dp) (hbits : bits ≤ 8) : tq_V (S := (Nat → Nat)) l yX0_setDepths cX0_setDepths 6 2 42 0 0 D cy (wC cy a key val ord tk cp efi ela eco ene ldp dp dbl hlv spl mrg lfi lla lco lne lev ptr llo lhi lsp) [.ref (a 2), .int (nI (row)), .int (nI (bits)), .int (nI (dd))] (fun u => ∀ q, u q = if q < 2 ^ dp ∧ q % 2 ^ bits = row then dd else ldp q) (fun u => (wC cy a key val ord tk cp efi ela eco ene u dp dbl hlv spl mrg lfi lla lco lne lev ptr llo lhi lsp)) := by
  refine tq_V.mk (by decide) (Nat.le_of_ble_eq_true rfl) ?_
  intro p e s m args below meth c A C hin hP hK hD hS hA ls hl
  obtain ⟨hx, hb, hml, hown, hrt, hlk, hT⟩ := id C
  have hl : lv_has ls 6 [(0, .ref (a 2)), (1, .int (nI (row))), (2, .int (nI (bits))), (3, .int (nI (dd)))] := hl
  have hp8 := p8 hdp
  have hp9 := p2_pos dp
  refine lv_aload_n hx hb dX0_setDepths_0 rfl (lv_at hl 0 rfl) ?_
  refine tq_callF (va_runV C.fix (As := []) (rest := []) (c_X0_countSlots l D cy a key val ord tk cp efi ela eco ene ldp dp dbl hlv spl mrg lfi lla lco lne lev ptr llo lhi lsp hdp) (tq_cV (n := 0) C ml_X0_44 im_X0_countSlots se_X0_countSlots ini_X0 cd_X0_countSlots ⟨by decide, by decide, by decide +kernel⟩ ⟨Nat.le_of_ble_eq_true rfl, Nat.le_of_ble_eq_true rfl⟩) ⟨tq_Pf.blind, va_recv hK hP (ci := 0) (q0 := 2) rfl rfl, tq_preF C hK hP⟩ rfl rfl hl.1 rfl (lv_room (Nat.le_of_ble_eq_true rfl)) dX0_setDepths_1 ⟨Nat.le_of_ble_eq_true rfl, Nat.le_of_ble_eq_true rfl⟩) (fun r1 hr1 => ?_)
  obtain rfl := hr1
  refine lv_istore (lv' := [(4, .int (nI (2 ^ dp))), (0, .ref (a 2)), (1, .int (nI (row))), (2, .int (nI (bits))), (3, .int (nI (dd)))]) hx hb dX0_setDepths_4 hl (by decide) rfl (fun ls hl => ?_)
  refine lv_iload_n hx hb dX0_setDepths_6 rfl (lv_at hl 2 rfl) ?_
  refine lv_istore (lv' := [(5, .int (nI (row))), (4, .int (nI (2 ^ dp))), (0, .ref (a 2)), (1, .int (nI (row))), (2, .int (nI (bits))), (3, .int (nI (dd)))]) hx hb dX0_setDepths_7 hl (by decide) rfl (fun ls hl => ?_)
  suffices hlp9 : ∀ (n9 : Nat) (i : Nat) (ldp1 : Nat → Nat), 2 ^ dp - i < n9 → (i ≤ 2 ^ dp) → (∀ q, ldp1 q = if q < i ∧ q % 2 ^ bits = row then dd else ldp q) → ∀ (H : Heap) (locs : List Loc), va_P D vwCl (wC cy a key val ord tk cp efi ela eco ene ldp1 dp dbl hlv spl mrg lfi lla lco lne lev ptr llo lhi lsp) H → va_D A (wC cy a key val ord tk cp efi ela eco ene ldp1 dp dbl hlv spl mrg lfi lla lco lne lev ptr llo lhi lsp) → va_S A s.heap H locs → ∀ ls : Array Slot, lv_has ls 6 [(0, .ref (a 2)), (1, .int (nI (row))), (2, .int (nI (bits))), (3, .int (nI (dd))), (4, .int (nI (2 ^ dp))), (5, .int (nI (i)))] → W p l e ({ frames := 2, cells := 0, slots := 0, locals := 42 } : Room) s m args below meth c H locs 0 0 (MQ below (va_Qv (S := (Nat → Nat)) (fun u => ∀ q, u q = if q < 2 ^ dp ∧ q % 2 ^ bits = row then dd else ldp q) (tq_B D A (fun u => (wC cy a key val ord tk cp efi ela eco ene u dp dbl hlv spl mrg lfi lla lco lne lev ptr llo lhi lsp))) A) args s 0 0 A) (F0 m 9 ls []) from
    hlp9 (2 ^ dp + 1) row ldp (by omega) (by omega) (fun q => by rw [if_neg]; rintro ⟨h1, h2⟩; have := Nat.mod_le q (2 ^ bits); omega) _ _ hP hD hS _ (lv_sub hl [2, 3, 4, 5, 1, 0] rfl)
  intro n9
  induction n9 with
  | zero => intro i ldp1 hf; exact absurd hf (Nat.not_lt_zero _)
  | succ n9 ih9 =>
    intro i ldp1 hf9 hi hq H locs hP hD hS ls hl
    refine lv_iload hx hb dX0_setDepths_9 (lv_at hl 5 rfl) ?_
    refine lv_iload hx hb dX0_setDepths_11 (lv_at hl 4 rfl) ?_
    refine tq_icmp_ge (tgt := 39) C (by omega) (by omega) dX0_setDepths_13 (by decide) (fun h13 => ?_) (fun h13 => ?_)
    · exact tq_vret C (ldp1) hP hD hS (fun q => by rw [hq q, show i = 2 ^ dp from by omega]) (Nat.le_of_ble_eq_true rfl) (Nat.le_of_ble_eq_true rfl) dX0_setDepths_39
    · refine lv_iload hx hb dX0_setDepths_16 (lv_at hl 5 rfl) ?_
      refine lv_iload_n hx hb dX0_setDepths_18 rfl (lv_at hl 2 rfl) ?_
      refine tq_callF (va_runSN C.fix (As := [.int (nI (i)), .int (nI (bits))]) (rest := []) (c_X4_lowBits l D cy i bits (by omega) (by omega)) (tq_cN (n := 2) C mn_X0_59 sm_X4_lowBits ini_X4 cd_X4_lowBits ⟨by decide, by decide, by decide +kernel⟩ ⟨Nat.le_of_ble_eq_true rfl, Nat.le_of_ble_eq_true rfl⟩) ⟨tq_Pf.blind, tq_preF C hK (hP.sub [] rfl)⟩ rfl rfl hl.1 rfl (lv_room (Nat.le_of_ble_eq_true rfl)) dX0_setDepths_19 ⟨Nat.le_of_ble_eq_true rfl, Nat.le_of_ble_eq_true rfl⟩) (fun r19 hr19 => ?_)
      obtain rfl := hr19
      refine lv_iload_n hx hb dX0_setDepths_22 rfl (lv_at hl 1 rfl) ?_
      refine tq_icmp_ne (tgt := 33) C (Nat.lt_of_le_of_lt (Nat.mod_le _ _) (by omega)) (by omega) dX0_setDepths_23 (by decide) (fun h23 => ?_) (fun h23 => ?_)
      · refine lv_iinc (v := (nI (i + 1))) (lv' := [(5, .int (nI (i + 1))), (0, .ref (a 2)), (1, .int (nI (row))), (2, .int (nI (bits))), (3, .int (nI (dd))), (4, .int (nI (2 ^ dp)))]) hx hb dX0_setDepths_33 hl (k := 5) rfl (tq_inc1 _) (by decide) rfl (fun ls hl => ?_)
        refine lv_goto (tgt := 9) hx hb dX0_setDepths_36 (by decide) ?_
        exact ih9 (i + 1) ldp1 (by omega) (by omega) (fun q => by rw [hq q, sd_no h23]) _ _ hP hD hS _ (lv_sub hl [1, 2, 3, 4, 5, 0] rfl)
      · refine lv_aload_n hx hb dX0_setDepths_26 rfl (lv_at hl 0 rfl) ?_
        refine lv_iload hx hb dX0_setDepths_27 (lv_at hl 5 rfl) ?_
        refine lv_iload_n hx hb dX0_setDepths_29 rfl (lv_at hl 3 rfl) ?_
        refine tq_callV (W3 := fun u => (wC cy a key val ord tk cp efi ela eco ene (va_up ldp1 i dd) dp dbl hlv spl mrg lfi lla lco lne lev ptr llo lhi lsp)) (wr := []) (va_runV C.fix (As := [.int (nI (i)), .int (nI (dd))]) (rest := []) ((c_X0_setDepth l D cy a key val ord tk cp efi ela eco ene ldp1 dp dbl hlv spl mrg lfi lla lco lne lev ptr llo lhi lsp i dd (by omega)) H.size) (tq_cV (n := 2) C ml_X0_105 im_X0_setDepth se_X0_setDepth ini_X0 cd_X0_setDepth ⟨by decide, by decide, by decide +kernel⟩ ⟨Nat.le_of_ble_eq_true rfl, Nat.le_of_ble_eq_true rfl⟩) ⟨tq_Pc.blind, va_recv hK hP (ci := 0) (q0 := 2) rfl rfl, tq_preC C hK hP hD⟩ rfl rfl hl.1 rfl (lv_room (Nat.le_of_ble_eq_true rfl)) dX0_setDepths_30 ⟨Nat.le_of_ble_eq_true rfl, Nat.le_of_ble_eq_true rfl⟩) hP hD hS hA [0, 1, 2, 3, 4, 5, 6, 7, 8, 9, 10, 11, 12, 13, 14, 15, 16, 17] [] [0, 1, 2, 3, 4, 5, 6, 7, 8, 9, 10, 11, 12, 13, 14, 15, 16, 17] rfl rfl (by decide) (by decide) (by decide) (fun _ => rfl) (fun u30 H locs hr30 hP hD hS => ?_)
        have hP : va_P D vwCl (wC cy a key val ord tk cp efi ela eco ene (va_up ldp1 i dd) dp dbl hlv spl mrg lfi lla lco lne lev ptr llo lhi lsp) H := hP
        have hD : va_D A (wC cy a key val ord tk cp efi ela eco ene (va_up ldp1 i dd) dp dbl hlv spl mrg lfi lla lco lne lev ptr llo lhi lsp) := hD
        refine lv_iinc (v := (nI (i + 1))) (lv' := [(5, .int (nI (i + 1))), (0, .ref (a 2)), (1, .int (nI (row))), (2, .int (nI (bits))), (3, .int (nI (dd))), (4, .int (nI (2 ^ dp)))]) hx hb dX0_setDepths_33 hl (k := 5) rfl (tq_inc1 _) (by decide) rfl (fun ls hl => ?_)
        refine lv_goto (tgt := 9) hx hb dX0_setDepths_36 (by decide) ?_
        exact ih9 (i + 1) (va_up ldp1 i dd) (by omega) (by omega) (fun q => by rw [sd_step (h23) hq]) _ _ hP hD hS _ (lv_sub hl [1, 2, 3, 4, 5, 0] rfl)
set_option maxHeartbeats 4000000 in
set_option maxRecDepth 100000 in
theorem c_X0_doubleDirectory (l : Launch) (D : va_G) (cy : ClassId) (a : Nat → Nat) (key : Nat → Nat) (val : Nat → Nat) (ord : Nat → Nat) (tk : Nat) (cp : Nat) (efi : Nat → Nat) (ela : Nat → Nat) (eco : Nat → Nat) (ene : Nat → Nat) (ldp : Nat → Nat) (dp : Nat) (dbl : Int32) (hlv : Int32) (spl : Int32) (mrg : Int32) (lfi : Nat → Nat) (lla : Nat → Nat) (lco : Nat → Nat) (lne : Nat → Nat) (lev : Nat) (ptr : Nat) (llo : Nat) (lhi : Nat) (lsp : Int32)  (hdp : dp < 8) : tq_V (S := (Nat → Nat)) l yX0_doubleDirectory cX0_doubleDirectory 3 2 42 0 0 D cy (wC cy a key val ord tk cp efi ela eco ene ldp dp dbl hlv spl mrg lfi lla lco lne lev ptr llo lhi lsp) [.ref (a 2)] (fun u => ∀ q, u q = if 2 ^ dp ≤ q ∧ q < 2 ^ dp + 2 ^ dp then ldp (q - 2 ^ dp) else ldp q) (fun u => (wC cy a key val ord tk cp efi ela eco ene u (dp + 1) (dbl + nI 1) hlv spl mrg lfi lla lco lne lev ptr llo lhi lsp)) := by
  refine tq_V.mk (by decide) (Nat.le_of_ble_eq_true rfl) ?_
  intro p e s m args below meth c A C hin hP hK hD hS hA ls hl
  obtain ⟨hx, hb, hml, hown, hrt, hlk, hT⟩ := id C
  have hl : lv_has ls 3 [(0, .ref (a 2))] := hl
  have hp8 := p7 hdp
  have hp9 := p2_pos dp
  refine lv_aload_n hx hb dX0_doubleDirectory_0 rfl (lv_at hl 0 rfl) ?_
  refine tq_callF (va_runV C.fix (As := []) (rest := []) (c_X0_countSlots l D cy a key val ord tk cp efi ela eco ene ldp dp dbl hlv spl mrg lfi lla lco lne lev ptr llo lhi lsp (by omega)) (tq_cV (n := 0) C ml_X0_44 im_X0_countSlots se_X0_countSlots ini_X0 cd_X0_countSlots ⟨by decide, by decide, by decide +kernel⟩ ⟨Nat.le_of_ble_eq_true rfl, Nat.le_of_ble_eq_true rfl⟩) ⟨tq_Pf.blind, va_recv hK hP (ci := 0) (q0 := 2) rfl rfl, tq_preF C hK hP⟩ rfl rfl hl.1 rfl (lv_room (Nat.le_of_ble_eq_true rfl)) dX0_doubleDirectory_1 ⟨Nat.le_of_ble_eq_true rfl, Nat.le_of_ble_eq_true rfl⟩) (fun r1 hr1 => ?_)
  obtain rfl := hr1
  refine lv_istore_n (lv' := [(1, .int (nI (2 ^ dp))), (0, .ref (a 2))]) hx hb dX0_doubleDirectory_4 rfl hl (by decide) rfl (fun ls hl => ?_)
  refine lv_iconst (v := nI 0) hx hb dX0_doubleDirectory_5 (by decide) ?_
  refine lv_istore_n (lv' := [(2, .int (nI (0))), (1, .int (nI (2 ^ dp))), (0, .ref (a 2))]) hx hb dX0_doubleDirectory_6 rfl hl (by decide) rfl (fun ls hl => ?_)
  suffices hlp7 : ∀ (n7 : Nat) (i : Nat) (ldp1 : Nat → Nat), 2 ^ dp - i < n7 → (i ≤ 2 ^ dp) → (∀ q, ldp1 q = if 2 ^ dp ≤ q ∧ q < 2 ^ dp + i then ldp (q - 2 ^ dp) else ldp q) → ∀ (H : Heap) (locs : List Loc), va_P D vwCl (wC cy a key val ord tk cp efi ela eco ene ldp1 dp dbl hlv spl mrg lfi lla lco lne lev ptr llo lhi lsp) H → va_D A (wC cy a key val ord tk cp efi ela eco ene ldp1 dp dbl hlv spl mrg lfi lla lco lne lev ptr llo lhi lsp) → va_S A s.heap H locs → ∀ ls : Array Slot, lv_has ls 3 [(0, .ref (a 2)), (1, .int (nI (2 ^ dp))), (2, .int (nI (i)))] → W p l e ({ frames := 2, cells := 0, slots := 0, locals := 42 } : Room) s m args below meth c H locs 0 0 (MQ below (va_Qv (S := (Nat → Nat)) (fun u => ∀ q, u q = if 2 ^ dp ≤ q ∧ q < 2 ^ dp + 2 ^ dp then ldp (q - 2 ^ dp) else ldp q) (tq_B D A (fun u => (wC cy a key val ord tk cp efi ela eco ene u (dp + 1) (dbl + nI 1) hlv spl mrg lfi lla lco lne lev ptr llo lhi lsp))) A) args s 0 0 A) (F0 m 7 ls []) from
    hlp7 (2 ^ dp + 1) 0 ldp (by omega) (by omega) (fun q => by rw [if_neg (by omega)]) _ _ hP hD hS _ (lv_sub hl [2, 1, 0] rfl)
  intro n7
  induction n7 with
  | zero => intro i ldp1 hf; exact absurd hf (Nat.not_lt_zero _)
  | succ n7 ih7 =>
    intro i ldp1 hf7 hi hq H locs hP hD hS ls hl
    refine lv_iload_n hx hb dX0_doubleDirectory_7 rfl (lv_at hl 2 rfl) ?_
    refine lv_iload_n hx hb dX0_doubleDirectory_8 rfl (lv_at hl 1 rfl) ?_
    refine tq_icmp_ge (tgt := 30) C (by omega) (by omega) dX0_doubleDirectory_9 (by decide) (fun h9 => ?_) (fun h9 => ?_)
    · refine lv_aload_n hx hb dX0_doubleDirectory_30 rfl (lv_at hl 0 rfl) ?_
      refine lv_dup hx hb dX0_doubleDirectory_31 rfl ?_
      refine tq_get (C0 := RX0) (T := TX0) (N := 8) (ci := 0) (k := 3) C gX0 inX0 rfl (by decide) rfl fl_X0_15 hK hP 2 rfl rfl dX0_doubleDirectory_32 ?_
      refine lv_iconst (v := nI 1) hx hb dX0_doubleDirectory_35 (by decide) ?_
      refine tq_iadd C dX0_doubleDirectory_36 ?_
      refine tq_put (v := .int (nI (dp + 1))) (C0 := RX0) (T := TX0) (N := 8) (ci := 0) (k := 3) (ty := .int) C gX0 inX0 tyX0_ok nmX0 rfl (by decide) rfl fl_X0_15 rfl (by decide +kernel) hK hP hD hS 2 rfl rfl rfl (Nat.le_of_ble_eq_true rfl) dX0_doubleDirectory_37 (fun H locs hP hD hS => ?_)
      have hP : va_P D vwCl (wC cy a key val ord tk cp efi ela eco ene ldp1 (dp + 1) dbl hlv spl mrg lfi lla lco lne lev ptr llo lhi lsp) H := hP
      have hD : va_D A (wC cy a key val ord tk cp efi ela eco ene ldp1 (dp + 1) dbl hlv spl mrg lfi lla lco lne lev ptr llo lhi lsp) := hD
      refine lv_aload_n hx hb dX0_doubleDirectory_40 rfl (lv_at hl 0 rfl) ?_
      refine lv_dup hx hb dX0_doubleDirectory_41 rfl ?_
      refine tq_get (C0 := RX0) (T := TX0) (N := 8) (ci := 0) (k := 4) C gX0 inX0 rfl (by decide) rfl fl_X0_19 hK hP 2 rfl rfl dX0_doubleDirectory_42 ?_
      refine lv_iconst (v := nI 1) hx hb dX0_doubleDirectory_45 (by decide) ?_
      refine lv_iadd hx hb dX0_doubleDirectory_46 ?_
      refine tq_put (v := .int (dbl + nI 1)) (C0 := RX0) (T := TX0) (N := 8) (ci := 0) (k := 4) (ty := .int) C gX0 inX0 tyX0_ok nmX0 rfl (by decide) rfl fl_X0_19 rfl (by decide +kernel) hK hP hD hS 2 rfl rfl rfl (Nat.le_of_ble_eq_true rfl) dX0_doubleDirectory_47 (fun H locs hP hD hS => ?_)
      have hP : va_P D vwCl (wC cy a key val ord tk cp efi ela eco ene ldp1 (dp + 1) (dbl + nI 1) hlv spl mrg lfi lla lco lne lev ptr llo lhi lsp) H := hP
      have hD : va_D A (wC cy a key val ord tk cp efi ela eco ene ldp1 (dp + 1) (dbl + nI 1) hlv spl mrg lfi lla lco lne lev ptr llo lhi lsp) := hD
      exact tq_vret C (ldp1) hP hD hS (fun q => by rw [hq q, show i = 2 ^ dp from by omega]) (Nat.le_of_ble_eq_true rfl) (Nat.le_of_ble_eq_true rfl) dX0_doubleDirectory_50
    · refine lv_aload_n hx hb dX0_doubleDirectory_12 rfl (lv_at hl 0 rfl) ?_
      refine lv_iload_n hx hb dX0_doubleDirectory_13 rfl (lv_at hl 2 rfl) ?_
      refine lv_iload_n hx hb dX0_doubleDirectory_14 rfl (lv_at hl 1 rfl) ?_
      refine tq_iadd C dX0_doubleDirectory_15 ?_
      refine lv_aload_n hx hb dX0_doubleDirectory_16 rfl (lv_at hl 0 rfl) ?_
      refine lv_iload_n hx hb dX0_doubleDirectory_17 rfl (lv_at hl 2 rfl) ?_
      refine tq_callF (va_runV C.fix (As := [.int (nI (i))]) (rest := [.int (nI (i + (2 ^ dp))), .ref (a 2)]) (c_X0_depthAt l D cy a key val ord tk cp efi ela eco ene ldp1 dp dbl hlv spl mrg lfi lla lco lne lev ptr llo lhi lsp i (by omega)) (tq_cV (n := 1) C ml_X0_63 im_X0_depthAt se_X0_depthAt ini_X0 cd_X0_depthAt ⟨by decide, by decide, by decide +kernel⟩ ⟨Nat.le_of_ble_eq_true rfl, Nat.le_of_ble_eq_true rfl⟩) ⟨tq_Pf.blind, va_recv hK hP (ci := 0) (q0 := 2) rfl rfl, tq_preF C hK hP⟩ rfl rfl hl.1 rfl (lv_room (Nat.le_of_ble_eq_true rfl)) dX0_doubleDirectory_18 ⟨Nat.le_of_ble_eq_true rfl, Nat.le_of_ble_eq_true rfl⟩) (fun r18 hr18 => ?_)
      obtain rfl := hr18
      refine tq_callV (W3 := fun u => (wC cy a key val ord tk cp efi ela eco ene (va_up ldp1 (i + (2 ^ dp)) (ldp1 i)) dp dbl hlv spl mrg lfi lla lco lne lev ptr llo lhi lsp)) (wr := []) (va_runV C.fix (As := [.int (nI (i + (2 ^ dp))), .int (nI (ldp1 i))]) (rest := []) ((c_X0_setDepth l D cy a key val ord tk cp efi ela eco ene ldp1 dp dbl hlv spl mrg lfi lla lco lne lev ptr llo lhi lsp (i + (2 ^ dp)) (ldp1 i) (by omega)) H.size) (tq_cV (n := 2) C ml_X0_105 im_X0_setDepth se_X0_setDepth ini_X0 cd_X0_setDepth ⟨by decide, by decide, by decide +kernel⟩ ⟨Nat.le_of_ble_eq_true rfl, Nat.le_of_ble_eq_true rfl⟩) ⟨tq_Pc.blind, va_recv hK hP (ci := 0) (q0 := 2) rfl rfl, tq_preC C hK hP hD⟩ rfl rfl hl.1 rfl (lv_room (Nat.le_of_ble_eq_true rfl)) dX0_doubleDirectory_21 ⟨Nat.le_of_ble_eq_true rfl, Nat.le_of_ble_eq_true rfl⟩) hP hD hS hA [0, 1, 2, 3, 4, 5, 6, 7, 8, 9, 10, 11, 12, 13, 14, 15, 16, 17] [] [0, 1, 2, 3, 4, 5, 6, 7, 8, 9, 10, 11, 12, 13, 14, 15, 16, 17] rfl rfl (by decide) (by decide) (by decide) (fun _ => rfl) (fun u21 H locs hr21 hP hD hS => ?_)
      have hP : va_P D vwCl (wC cy a key val ord tk cp efi ela eco ene (va_up ldp1 (i + (2 ^ dp)) (ldp1 i)) dp dbl hlv spl mrg lfi lla lco lne lev ptr llo lhi lsp) H := hP
      have hD : va_D A (wC cy a key val ord tk cp efi ela eco ene (va_up ldp1 (i + (2 ^ dp)) (ldp1 i)) dp dbl hlv spl mrg lfi lla lco lne lev ptr llo lhi lsp) := hD
      refine lv_iinc (v := (nI (i + 1))) (lv' := [(2, .int (nI (i + 1))), (0, .ref (a 2)), (1, .int (nI (2 ^ dp)))]) hx hb dX0_doubleDirectory_24 hl (k := 2) rfl (tq_inc1 _) (by decide) rfl (fun ls hl => ?_)
      refine lv_goto (tgt := 7) hx hb dX0_doubleDirectory_27 (by decide) ?_
      exact ih7 (i + 1) (va_up ldp1 (i + (2 ^ dp)) (ldp1 i)) (by omega) (by omega) (fun q => (by
        by_cases z : q = i + 2 ^ dp
        · subst z; rw [up_s, hq i, if_neg (by omega), if_pos (by omega), Nat.add_sub_cancel]
        · rw [up_n _ _ z, hq q]; by_cases z2 : 2 ^ dp ≤ q ∧ q < 2 ^ dp + i
          · rw [if_pos z2, if_pos (by omega)]
          · rw [if_neg z2, if_neg (by omega)])) _ _ hP hD hS _ (lv_sub hl [1, 2, 0] rfl)
set_option maxHeartbeats 4000000 in
set_option maxRecDepth 100000 in
theorem c_X0_hasDepth (l : Launch) (D : va_G) (cy : ClassId) (a : Nat → Nat) (key : Nat → Nat) (val : Nat → Nat) (ord : Nat → Nat) (tk : Nat) (cp : Nat) (efi : Nat → Nat) (ela : Nat → Nat) (eco : Nat → Nat) (ene : Nat → Nat) (ldp : Nat → Nat) (dp : Nat) (dbl : Int32) (hlv : Int32) (spl : Int32) (mrg : Int32) (lfi : Nat → Nat) (lla : Nat → Nat) (lco : Nat → Nat) (lne : Nat → Nat) (lev : Nat) (ptr : Nat) (llo : Nat) (lhi : Nat) (lsp : Int32) (dd : Nat) (hdp : dp ≤ 8) (hld : ∀ q, q < 256 → ldp q ≤ 8) (hdd : dd ≤ 8) : tq_F l yX0_hasDepth cX0_hasDepth 4 (some .boolean) 2 41 D cy (wC cy a key val ord tk cp efi ela eco ene ldp dp dbl hlv spl mrg lfi lla lco lne lev ptr llo lhi lsp) [.ref (a 2), .int (nI (dd))] (fun r => ((∃ q, q < 2 ^ dp ∧ ldp q = dd) ∧ r = nI 1) ∨ (¬ (∃ q, q < 2 ^ dp ∧ ldp q = dd) ∧ r = nI 0)) := by
  refine tq_F.mk (by decide) (Nat.le_of_ble_eq_true rfl) ?_
  intro p e s m args below meth c C hP hK ls hl
  obtain ⟨hx, hb, hml, hown, hrt, hlk, hT⟩ := id C
  have hl : lv_has ls 4 [(0, .ref (a 2)), (1, .int (nI (dd)))] := hl
  have hp8 := p8 hdp
  have hp9 := p2_pos dp
  refine lv_aload_n hx hb dX0_hasDepth_0 rfl (lv_at hl 0 rfl) ?_
  refine tq_callF (va_runV C.fix (As := []) (rest := []) (c_X0_countSlots l D cy a key val ord tk cp efi ela eco ene ldp dp dbl hlv spl mrg lfi lla lco lne lev ptr llo lhi lsp hdp) (tq_cV (n := 0) C ml_X0_44 im_X0_countSlots se_X0_countSlots ini_X0 cd_X0_countSlots ⟨by decide, by decide, by decide +kernel⟩ ⟨Nat.le_of_ble_eq_true rfl, Nat.le_of_ble_eq_true rfl⟩) ⟨tq_Pf.blind, va_recv hK hP (ci := 0) (q0 := 2) rfl rfl, tq_preF C hK hP⟩ rfl rfl hl.1 rfl (lv_room (Nat.le_of_ble_eq_true rfl)) dX0_hasDepth_1 ⟨Nat.le_of_ble_eq_true rfl, Nat.le_of_ble_eq_true rfl⟩) (fun r1 hr1 => ?_)
  obtain rfl := hr1
  refine lv_istore_n (lv' := [(2, .int (nI (2 ^ dp))), (0, .ref (a 2)), (1, .int (nI (dd)))]) hx hb dX0_hasDepth_4 rfl hl (by decide) rfl (fun ls hl => ?_)
  refine lv_iconst (v := nI 0) hx hb dX0_hasDepth_5 (by decide) ?_
  refine lv_istore_n (lv' := [(3, .int (nI (0))), (2, .int (nI (2 ^ dp))), (0, .ref (a 2)), (1, .int (nI (dd)))]) hx hb dX0_hasDepth_6 rfl hl (by decide) rfl (fun ls hl => ?_)
  suffices hlp7 : ∀ (n7 : Nat) (i : Nat), 2 ^ dp - i < n7 → (i ≤ 2 ^ dp) → (∀ q, q < i → ldp q ≠ dd) → ∀ ls : Array Slot, lv_has ls 4 [(0, .ref (a 2)), (1, .int (nI (dd))), (2, .int (nI (2 ^ dp))), (3, .int (nI (i)))] → W p l e ({ frames := 2, cells := 0, slots := 0, locals := 41 } : Room) s m args below meth c s.heap [] 0 0 (MQ below (tq_Qf (fun r => ((∃ q, q < 2 ^ dp ∧ ldp q = dd) ∧ r = nI 1) ∨ (¬ (∃ q, q < 2 ^ dp ∧ ldp q = dd) ∧ r = nI 0))) args s 0 0 (fun _ => False)) (F0 m 7 ls []) from
    hlp7 (2 ^ dp + 1) 0 (by omega) (by omega) (fun q h => absurd h (Nat.not_lt_zero _)) _ (lv_sub hl [2, 3, 1, 0] rfl)
  intro n7
  induction n7 with
  | zero => intro i hf; exact absurd hf (Nat.not_lt_zero _)
  | succ n7 ih7 =>
    intro i hf7 hi hno ls hl
    refine lv_iload_n hx hb dX0_hasDepth_7 rfl (lv_at hl 3 rfl) ?_
    refine lv_iload_n hx hb dX0_hasDepth_8 rfl (lv_at hl 2 rfl) ?_
    refine tq_icmp_ge (tgt := 29) C (by omega) (by omega) dX0_hasDepth_9 (by decide) (fun h9 => ?_) (fun h9 => ?_)
    · refine lv_iconst (v := nI 0) hx hb dX0_hasDepth_29 (by decide) ?_
      exact tq_fret (v := (nI (0))) C (by decide) (Or.inr ⟨fun ⟨q, h, e9⟩ => hno q (by omega) e9, rfl⟩) dX0_hasDepth_30
    · refine lv_aload_n hx hb dX0_hasDepth_12 rfl (lv_at hl 0 rfl) ?_
      refine lv_iload_n hx hb dX0_hasDepth_13 rfl (lv_at hl 3 rfl) ?_
      refine tq_callF (va_runV C.fix (As := [.int (nI (i))]) (rest := []) (c_X0_depthAt l D cy a key val ord tk cp efi ela eco ene ldp dp dbl hlv spl mrg lfi lla lco lne lev ptr llo lhi lsp i (by omega)) (tq_cV (n := 1) C ml_X0_63 im_X0_depthAt se_X0_depthAt ini_X0 cd_X0_depthAt ⟨by decide, by decide, by decide +kernel⟩ ⟨Nat.le_of_ble_eq_true rfl, Nat.le_of_ble_eq_true rfl⟩) ⟨tq_Pf.blind, va_recv hK hP (ci := 0) (q0 := 2) rfl rfl, tq_preF C hK hP⟩ rfl rfl hl.1 rfl (lv_room (Nat.le_of_ble_eq_true rfl)) dX0_hasDepth_14 ⟨Nat.le_of_ble_eq_true rfl, Nat.le_of_ble_eq_true rfl⟩) (fun r14 hr14 => ?_)
      obtain rfl := hr14
      have hl9 := hld i (by omega)
      refine lv_iload_n hx hb dX0_hasDepth_17 rfl (lv_at hl 1 rfl) ?_
      refine tq_icmp_ne (tgt := 23) C (by omega) (by omega) dX0_hasDepth_18 (by decide) (fun h18 => ?_) (fun h18 => ?_)
      · refine lv_iinc (v := (nI (i + 1))) (lv' := [(3, .int (nI (i + 1))), (0, .ref (a 2)), (1, .int (nI (dd))), (2, .int (nI (2 ^ dp)))]) hx hb dX0_hasDepth_23 hl (k := 3) rfl (tq_inc1 _) (by decide) rfl (fun ls hl => ?_)
        refine lv_goto (tgt := 7) hx hb dX0_hasDepth_26 (by decide) ?_
        exact ih7 (i + 1) (by omega) (by omega) (fun q h => (Nat.lt_or_eq_of_le (Nat.le_of_lt_succ h)).elim (hno q) (fun z => z ▸ h18)) _ (lv_sub hl [1, 2, 3, 0] rfl)
      · refine lv_iconst (v := nI 1) hx hb dX0_hasDepth_21 (by decide) ?_
        exact tq_fret (v := (nI (1))) C (by decide) (Or.inl ⟨⟨i, h9, h18⟩, rfl⟩) dX0_hasDepth_22
set_option maxHeartbeats 4000000 in
set_option maxRecDepth 100000 in
theorem c_X0_halveWhilePossible (l : Launch) (D : va_G) (cy : ClassId) (a : Nat → Nat) (key : Nat → Nat) (val : Nat → Nat) (ord : Nat → Nat) (tk : Nat) (cp : Nat) (efi : Nat → Nat) (ela : Nat → Nat) (eco : Nat → Nat) (ene : Nat → Nat) (ldp : Nat → Nat) (dp : Nat) (dbl : Int32) (hlv : Int32) (spl : Int32) (mrg : Int32) (lfi : Nat → Nat) (lla : Nat → Nat) (lco : Nat → Nat) (lne : Nat → Nat) (lev : Nat) (ptr : Nat) (llo : Nat) (lhi : Nat) (lsp : Int32)  (hdp : dp ≤ 8) (hld : ∀ q, q < 256 → ldp q ≤ 8)  : tq_V (S := Nat × Int32) l yX0_halveWhilePossible cX0_halveWhilePossible 2 3 64 0 0 D cy (wC cy a key val ord tk cp efi ela eco ene ldp dp dbl hlv spl mrg lfi lla lco lne lev ptr llo lhi lsp) [.ref (a 2)] (fun u => u.1 ≤ dp ∧ (u.1 = 0 ∨ ∃ q, q < 2 ^ u.1 ∧ ldp q = u.1) ∧ (∀ j, u.1 < j → j ≤ dp → ¬ ∃ q, q < 2 ^ j ∧ ldp q = j) ∧ u.2 = hlv + nI (dp - u.1)) (fun u => (wC cy a key val ord tk cp efi ela eco ene ldp u.1 dbl u.2 spl mrg lfi lla lco lne lev ptr llo lhi lsp)) := by
  refine tq_V.mk (by decide) (Nat.le_of_ble_eq_true rfl) ?_
  intro p e s m args below meth c A C hin hP hK hD hS hA ls hl
  obtain ⟨hx, hb, hml, hown, hrt, hlk, hT⟩ := id C
  have hl : lv_has ls 2 [(0, .ref (a 2))] := hl
  refine lv_aload_n hx hb dX0_halveWhilePossible_0 rfl (lv_at hl 0 rfl) ?_
  refine tq_get (C0 := RX0) (T := TX0) (N := 8) (ci := 0) (k := 3) C gX0 inX0 rfl (by decide) rfl fl_X0_15 hK hP 2 rfl rfl dX0_halveWhilePossible_1 ?_
  refine lv_istore_n (lv' := [(1, .int (nI (dp))), (0, .ref (a 2))]) hx hb dX0_halveWhilePossible_4 rfl hl (by decide) rfl (fun ls hl => ?_)
  suffices hlp5 : ∀ (n5 : Nat) (g1 : Nat) (hlv1 : Int32), g1 < n5 → (g1 ≤ dp) → (∀ j, g1 < j → j ≤ dp → ¬ ∃ q, q < 2 ^ j ∧ ldp q = j) → (hlv1 = hlv + nI (dp - g1)) → ∀ (H : Heap) (locs : List Loc), va_P D vwCl (wC cy a key val ord tk cp efi ela eco ene ldp g1 dbl hlv1 spl mrg lfi lla lco lne lev ptr llo lhi lsp) H → va_D A (wC cy a key val ord tk cp efi ela eco ene ldp g1 dbl hlv1 spl mrg lfi lla lco lne lev ptr llo lhi lsp) → va_S A s.heap H locs → ∀ ls : Array Slot, lv_has ls 2 [(0, .ref (a 2)), (1, .int (nI (g1)))] → W p l e ({ frames := 3, cells := 0, slots := 0, locals := 64 } : Room) s m args below meth c H locs 0 0 (MQ below (va_Qv (S := Nat × Int32) (fun u => u.1 ≤ dp ∧ (u.1 = 0 ∨ ∃ q, q < 2 ^ u.1 ∧ ldp q = u.1) ∧ (∀ j, u.1 < j → j ≤ dp → ¬ ∃ q, q < 2 ^ j ∧ ldp q = j) ∧ u.2 = hlv + nI (dp - u.1)) (tq_B D A (fun u => (wC cy a key val ord tk cp efi ela eco ene ldp u.1 dbl u.2 spl mrg lfi lla lco lne lev ptr llo lhi lsp))) A) args s 0 0 A) (F0 m 5 ls []) from
    hlp5 (dp + 1) dp hlv (by omega) (by omega) (fun j h h9 => absurd h (by omega)) (by rw [Nat.sub_self, nI_z]) _ _ hP hD hS _ (lv_sub hl [1, 0] rfl)
  intro n5
  induction n5 with
  | zero => intro g1 hlv1 hf; exact absurd hf (Nat.not_lt_zero _)
  | succ n5 ih5 =>
    intro g1 hlv1 hf5 hg hno hh H locs hP hD hS ls hl
    refine lv_iload_n hx hb dX0_halveWhilePossible_5 rfl (lv_at hl 1 rfl) ?_
    refine tq_if_le (tgt := 40) C (by omega) dX0_halveWhilePossible_6 (by decide) (fun h6 => ?_) (fun h6 => ?_)
    · exact tq_vret C (g1, hlv1) hP hD hS (⟨hg, Or.inl h6, hno, hh⟩) (Nat.le_of_ble_eq_true rfl) (Nat.le_of_ble_eq_true rfl) dX0_halveWhilePossible_40
    · refine lv_aload_n hx hb dX0_halveWhilePossible_9 rfl (lv_at hl 0 rfl) ?_
      refine lv_iload_n hx hb dX0_halveWhilePossible_10 rfl (lv_at hl 1 rfl) ?_
      refine tq_callF (va_runV C.fix (As := [.int (nI (g1))]) (rest := []) (c_X0_hasDepth l D cy a key val ord tk cp efi ela eco ene ldp g1 dbl hlv1 spl mrg lfi lla lco lne lev ptr llo lhi lsp g1 (by omega) hld (by omega)) (tq_cV (n := 1) C ml_X0_128 im_X0_hasDepth se_X0_hasDepth ini_X0 cd_X0_hasDepth ⟨by decide, by decide, by decide +kernel⟩ ⟨Nat.le_of_ble_eq_true rfl, Nat.le_of_ble_eq_true rfl⟩) ⟨tq_Pf.blind, va_recv hK hP (ci := 0) (q0 := 2) rfl rfl, tq_preF C hK hP⟩ rfl rfl hl.1 rfl (lv_room (Nat.le_of_ble_eq_true rfl)) dX0_halveWhilePossible_11 ⟨Nat.le_of_ble_eq_true rfl, Nat.le_of_ble_eq_true rfl⟩) (fun r11 hr11 => ?_)
      rcases hr11 with ⟨hr11, rfl⟩ | ⟨hr11, rfl⟩
      · refine lv_if_ne (tgt := 40) hx hb dX0_halveWhilePossible_14 (by decide) (fun _ => ?_) (fun h9 => absurd h9 (by decide))
        exact tq_vret C (g1, hlv1) hP hD hS (⟨hg, Or.inr hr11, hno, hh⟩) (Nat.le_of_ble_eq_true rfl) (Nat.le_of_ble_eq_true rfl) dX0_halveWhilePossible_40
      · refine lv_if_ne (tgt := 40) hx hb dX0_halveWhilePossible_14 (by decide) (fun h9 => absurd (by decide : nI 0 = 0) h9) (fun _ => ?_)
        refine lv_aload_n hx hb dX0_halveWhilePossible_17 rfl (lv_at hl 0 rfl) ?_
        refine lv_iload_n hx hb dX0_halveWhilePossible_18 rfl (lv_at hl 1 rfl) ?_
        refine lv_iconst (v := nI 1) hx hb dX0_halveWhilePossible_19 (by decide) ?_
        refine tq_isub C (by omega) dX0_halveWhilePossible_20 ?_
        refine tq_put (v := .int (nI (g1 - 1))) (C0 := RX0) (T := TX0) (N := 8) (ci := 0) (k := 3) (ty := .int) C gX0 inX0 tyX0_ok nmX0 rfl (by decide) rfl fl_X0_15 rfl (by decide +kernel) hK hP hD hS 2 rfl rfl rfl (Nat.le_of_ble_eq_true rfl) dX0_halveWhilePossible_21 (fun H locs hP hD hS => ?_)
        have hP : va_P D vwCl (wC cy a key val ord tk cp efi ela eco ene ldp (g1 - 1) dbl hlv1 spl mrg lfi lla lco lne lev ptr llo lhi lsp) H := hP
        have hD : va_D A (wC cy a key val ord tk cp efi ela eco ene ldp (g1 - 1) dbl hlv1 spl mrg lfi lla lco lne lev ptr llo lhi lsp) := hD
        refine lv_aload_n hx hb dX0_halveWhilePossible_24 rfl (lv_at hl 0 rfl) ?_
        refine lv_dup hx hb dX0_halveWhilePossible_25 rfl ?_
        refine tq_get (C0 := RX0) (T := TX0) (N := 8) (ci := 0) (k := 5) C gX0 inX0 rfl (by decide) rfl fl_X0_22 hK hP 2 rfl rfl dX0_halveWhilePossible_26 ?_
        refine lv_iconst (v := nI 1) hx hb dX0_halveWhilePossible_29 (by decide) ?_
        refine lv_iadd hx hb dX0_halveWhilePossible_30 ?_
        refine tq_put (v := .int (hlv1 + nI 1)) (C0 := RX0) (T := TX0) (N := 8) (ci := 0) (k := 5) (ty := .int) C gX0 inX0 tyX0_ok nmX0 rfl (by decide) rfl fl_X0_22 rfl (by decide +kernel) hK hP hD hS 2 rfl rfl rfl (Nat.le_of_ble_eq_true rfl) dX0_halveWhilePossible_31 (fun H locs hP hD hS => ?_)
        have hP : va_P D vwCl (wC cy a key val ord tk cp efi ela eco ene ldp (g1 - 1) dbl (hlv1 + nI 1) spl mrg lfi lla lco lne lev ptr llo lhi lsp) H := hP
        have hD : va_D A (wC cy a key val ord tk cp efi ela eco ene ldp (g1 - 1) dbl (hlv1 + nI 1) spl mrg lfi lla lco lne lev ptr llo lhi lsp) := hD
        refine lv_iinc (v := (nI (g1 - 1))) (lv' := [(1, .int (nI (g1 - 1))), (0, .ref (a 2))]) hx hb dX0_halveWhilePossible_34 hl (k := 1) rfl (tq_dec (by omega)) (by decide) rfl (fun ls hl => ?_)
        refine lv_goto (tgt := 5) hx hb dX0_halveWhilePossible_37 (by decide) ?_
        exact ih5 (g1 - 1) (hlv1 + nI 1) (by omega) (by omega) (fun j h h9 => (Nat.lt_or_eq_of_le (show g1 ≤ j by omega)).elim (fun z => hno j z h9) (fun z => z ▸ hr11)) (by rw [hh, nI_s1, show dp - g1 + 1 = dp - (g1 - 1) from by omega]) _ _ hP hD hS _ (lv_sub hl [1, 0] rfl)
set_option maxHeartbeats 4000000 in
set_option maxRecDepth 100000 in
theorem c_X0_canMerge (l : Launch) (D : va_G) (cy : ClassId) (a : Nat → Nat) (key : Nat → Nat) (val : Nat → Nat) (ord : Nat → Nat) (tk : Nat) (cp : Nat) (efi : Nat → Nat) (ela : Nat → Nat) (eco : Nat → Nat) (ene : Nat → Nat) (ldp : Nat → Nat) (dp : Nat) (dbl : Int32) (hlv : Int32) (spl : Int32) (mrg : Int32) (lfi : Nat → Nat) (lla : Nat → Nat) (lco : Nat → Nat) (lne : Nat → Nat) (lev : Nat) (ptr : Nat) (llo : Nat) (lhi : Nat) (lsp : Int32) (row : Nat) (hld : ∀ q, q < 256 → ldp q ≤ 8) (hsl : row < 256) (hco : ∀ r, r < 256 → eco r ≤ 120) (hcp : cp ≤ 5) : tq_F l yX0_canMerge cX0_canMerge 3 (some .boolean) 3 64 D cy (wC cy a key val ord tk cp efi ela eco ene ldp dp dbl hlv spl mrg lfi lla lco lne lev ptr llo lhi lsp) [.ref (a 2), .int (nI (row))] (fun r => ((0 < ldp row ∧ ldp (bdy ldp row) = ldp row ∧ eco row + eco (bdy ldp row) ≤ cp) ∧ r = nI 1) ∨ (¬ (0 < ldp row ∧ ldp (bdy ldp row) = ldp row ∧ eco row + eco (bdy ldp row) ≤ cp) ∧ r = nI 0)) := by
  refine tq_F.mk (by decide) (Nat.le_of_ble_eq_true rfl) ?_
  intro p e s m args below meth c C hP hK ls hl
  obtain ⟨hx, hb, hml, hown, hrt, hlk, hT⟩ := id C
  have hl : lv_has ls 3 [(0, .ref (a 2)), (1, .int (nI (row)))] := hl
  refine lv_aload_n hx hb dX0_canMerge_0 rfl (lv_at hl 0 rfl) ?_
  refine lv_iload_n hx hb dX0_canMerge_1 rfl (lv_at hl 1 rfl) ?_
  refine tq_callF (va_runV C.fix (As := [.int (nI (row))]) (rest := []) (c_X0_buddyAt l D cy a key val ord tk cp efi ela eco ene ldp dp dbl hlv spl mrg lfi lla lco lne lev ptr llo lhi lsp row hld hsl) (tq_cV (n := 1) C ml_X0_122 im_X0_buddyAt se_X0_buddyAt ini_X0 cd_X0_buddyAt ⟨by decide, by decide, by decide +kernel⟩ ⟨Nat.le_of_ble_eq_true rfl, Nat.le_of_ble_eq_true rfl⟩) ⟨tq_Pf.blind, va_recv hK hP (ci := 0) (q0 := 2) rfl rfl, tq_preF C hK hP⟩ rfl rfl hl.1 rfl (lv_room (Nat.le_of_ble_eq_true rfl)) dX0_canMerge_2 ⟨Nat.le_of_ble_eq_true rfl, Nat.le_of_ble_eq_true rfl⟩) (fun r2 hr2 => ?_)
  rcases hr2 with ⟨hz, rfl⟩ | ⟨hz, hq, rfl⟩ | ⟨hz, hq, rfl⟩
  · refine lv_istore_n (lv' := [(2, .int (-1)), (0, .ref (a 2)), (1, .int (nI (row)))]) hx hb dX0_canMerge_5 rfl hl (by decide) rfl (fun ls hl => ?_)
    refine lv_iload_n hx hb dX0_canMerge_6 rfl (lv_at hl 0 rfl) ?_
    refine lv_iconst (v := (-1)) hx hb dX0_canMerge_7 (by decide) ?_
    refine lv_icmp_eq (tgt := 42) hx hb dX0_canMerge_8 (by decide) (fun h8 => ?_) (fun h8 => ?_)
    · refine lv_iconst (v := nI 0) hx hb dX0_canMerge_42 (by decide) ?_
      exact tq_fret (v := (nI (0))) C (by decide) (Or.inr ⟨fun h => by omega, rfl⟩) dX0_canMerge_43
    · exact absurd rfl h8
  · have hb9 := bdy_lt (hld row hsl) hz
    have hc8 := hco _ hb9
    have hc9 := hco _ hsl
    refine lv_istore_n (lv' := [(2, .int (nI (bdy ldp row))), (0, .ref (a 2)), (1, .int (nI (row)))]) hx hb dX0_canMerge_5 rfl hl (by decide) rfl (fun ls hl => ?_)
    refine lv_iload_n hx hb dX0_canMerge_6 rfl (lv_at hl 0 rfl) ?_
    refine lv_iconst (v := (-1)) hx hb dX0_canMerge_7 (by decide) ?_
    refine lv_icmp_eq (tgt := 42) hx hb dX0_canMerge_8 (by decide) (fun h8 => ?_) (fun h8 => ?_)
    · exact absurd h8 (tq_neg1 (by omega))
    · refine lv_aload_n hx hb dX0_canMerge_11 rfl (lv_at hl 1 rfl) ?_
      refine tq_get (C0 := RX0) (T := TX0) (N := 8) (ci := 0) (k := 1) C gX0 inX0 rfl (by decide) rfl fl_X0_40 hK hP 2 rfl rfl dX0_canMerge_12 ?_
      refine lv_iload_n hx hb dX0_canMerge_15 rfl (lv_at hl 2 rfl) ?_
      refine tq_callF (va_runV C.fix (As := [.int (nI (row))]) (rest := []) (c_X2_count l D cy (a 7) (a 10) (a 11) (a 12) (a 13) (a 1) (a 4) (a 5) (a 6) efi ela eco ene key tk cp row hsl) (tq_cV (n := 1) C ml_X0_80 im_X2_count se_X2_count ini_X2 cd_X2_count ⟨by decide, by decide, by decide +kernel⟩ ⟨Nat.le_of_ble_eq_true rfl, Nat.le_of_ble_eq_true rfl⟩) ⟨tq_Pf.blind, va_recv hK hP (ci := 2) (q0 := 7) rfl rfl, tq_preF C hK (hP.sub [7, 10, 11, 12, 13, 1, 4] rfl)⟩ rfl rfl hl.1 rfl (lv_room (Nat.le_of_ble_eq_true rfl)) dX0_canMerge_16 ⟨Nat.le_of_ble_eq_true rfl, Nat.le_of_ble_eq_true rfl⟩) (fun r16 hr16 => ?_)
      obtain rfl := hr16
      refine lv_aload_n hx hb dX0_canMerge_19 rfl (lv_at hl 1 rfl) ?_
      refine tq_get (C0 := RX0) (T := TX0) (N := 8) (ci := 0) (k := 1) C gX0 inX0 rfl (by decide) rfl fl_X0_40 hK hP 2 rfl rfl dX0_canMerge_20 ?_
      refine lv_iload_n hx hb dX0_canMerge_23 rfl (lv_at hl 0 rfl) ?_
      refine tq_callF (va_runV C.fix (As := [.int (nI (bdy ldp row))]) (rest := [.int (nI (eco row))]) (c_X2_count l D cy (a 7) (a 10) (a 11) (a 12) (a 13) (a 1) (a 4) (a 5) (a 6) efi ela eco ene key tk cp (bdy ldp row) hb9) (tq_cV (n := 1) C ml_X0_80 im_X2_count se_X2_count ini_X2 cd_X2_count ⟨by decide, by decide, by decide +kernel⟩ ⟨Nat.le_of_ble_eq_true rfl, Nat.le_of_ble_eq_true rfl⟩) ⟨tq_Pf.blind, va_recv hK hP (ci := 2) (q0 := 7) rfl rfl, tq_preF C hK (hP.sub [7, 10, 11, 12, 13, 1, 4] rfl)⟩ rfl rfl hl.1 rfl (lv_room (Nat.le_of_ble_eq_true rfl)) dX0_canMerge_24 ⟨Nat.le_of_ble_eq_true rfl, Nat.le_of_ble_eq_true rfl⟩) (fun r24 hr24 => ?_)
      obtain rfl := hr24
      refine tq_iadd C dX0_canMerge_27 ?_
      refine lv_aload_n hx hb dX0_canMerge_28 rfl (lv_at hl 1 rfl) ?_
      refine tq_get (C0 := RX0) (T := TX0) (N := 8) (ci := 0) (k := 0) C gX0 inX0 rfl (by decide) rfl fl_X0_31 hK hP 2 rfl rfl dX0_canMerge_29 ?_
      refine tq_getN (C0 := RX3) (T := TX3) (N := 5) (ci := 3) (k := 4) C gX3 inX3 rfl (by decide) rfl fn_X0_83 hK hP 1 rfl rfl dX0_canMerge_32 ?_
      refine tq_icmp_gt (tgt := 42) C (by omega) (by omega) dX0_canMerge_35 (by decide) (fun h35 => ?_) (fun h35 => ?_)
      · refine lv_iconst (v := nI 0) hx hb dX0_canMerge_42 (by decide) ?_
        exact tq_fret (v := (nI (0))) C (by decide) (Or.inr ⟨fun h => by omega, rfl⟩) dX0_canMerge_43
      · refine lv_iconst (v := nI 1) hx hb dX0_canMerge_38 (by decide) ?_
        refine lv_goto (tgt := 43) hx hb dX0_canMerge_39 (by decide) ?_
        exact tq_fret (v := (nI (1))) C (by decide) (Or.inl ⟨⟨hz, hq, h35⟩, rfl⟩) dX0_canMerge_43
  · refine lv_istore_n (lv' := [(2, .int (-1)), (0, .ref (a 2)), (1, .int (nI (row)))]) hx hb dX0_canMerge_5 rfl hl (by decide) rfl (fun ls hl => ?_)
    refine lv_iload_n hx hb dX0_canMerge_6 rfl (lv_at hl 0 rfl) ?_
    refine lv_iconst (v := (-1)) hx hb dX0_canMerge_7 (by decide) ?_
    refine lv_icmp_eq (tgt := 42) hx hb dX0_canMerge_8 (by decide) (fun h8 => ?_) (fun h8 => ?_)
    · refine lv_iconst (v := nI 0) hx hb dX0_canMerge_42 (by decide) ?_
      exact tq_fret (v := (nI (0))) C (by decide) (Or.inr ⟨fun h => hq h.2.1, rfl⟩) dX0_canMerge_43
    · exact absurd rfl h8
end
section
/-! a list of keys, dealt by a function to rows: a row is split, two rows merge -/
theorem split_filter {E : List Nat} {f f' t : Nat → Nat} {row r2 : Nat} (h1 : ∀ k, f' k = if f k = row then t k else f k) (h2 : ∀ k, t k = row ∨ t k = r2) (h3 : ∀ k, f k ≠ r2) (r : Nat) :
    (if r = row then [] else E.filter (fun k => f k == r)) ++ (E.filter (fun k => f k == row)).filter (fun k => t k == r) = E.filter (fun k => f' k == r) := by
  have e1 : (E.filter (fun k => f k == row)).filter (fun k => t k == r) = E.filter (fun k => f k == row && t k == r) := by
    rw [List.filter_filter]
    exact List.filter_congr (fun k _ => Bool.and_comm _ _)
  rw [e1]
  by_cases q : r = row
  · rw [if_pos q, List.nil_append]
    refine List.filter_congr (fun k _ => ?_)
    rw [h1 k]
    by_cases z : f k = row
    · simp [z]
    · rw [if_neg z]
      have a : (f k == row) = false := by simpa using z
      have b : (f k == r) = false := by rw [q]; exact a
      rw [a, b]; rfl
  · rw [if_neg q]
    by_cases q2 : r = r2
    · have e2 : E.filter (fun k => f k == r) = [] := by
        rw [List.filter_eq_nil_iff]
        intro k _
        rw [q2]
        simpa using h3 k
      rw [e2, List.nil_append]
      refine List.filter_congr (fun k _ => ?_)
      rw [h1 k]
      by_cases z : f k = row
      · simp [z]
      · rw [if_neg z]
        have a : (f k == row) = false := by simpa using z
        have b : (f k == r) = false := by rw [q2]; simpa using h3 k
        rw [a, b]; rfl
    · have e2 : E.filter (fun k => f k == row && t k == r) = [] := by
        rw [List.filter_eq_nil_iff]
        intro k _
        have a : (t k == r) = false := by
          rcases h2 k with h | h <;> rw [h]
          · simpa using fun y : row = r => q y.symm
          · simpa using fun y : r2 = r => q2 y.symm
        rw [a, Bool.and_false]; decide
      rw [e2, List.append_nil]
      refine List.filter_congr (fun k _ => ?_)
      rw [h1 k]
      by_cases z : f k = row
      · rw [if_pos z, z]
        have a : (row == r) = false := by simpa using fun y => q y.symm
        have b : (t k == r) = false := by
          rcases h2 k with h | h <;> rw [h]
          · exact a
          · simpa using fun y => q2 y.symm
        rw [a, b]
      · rw [if_neg z]
theorem merge_filter {E : List Nat} {f f' : Nat → Nat} {row r2 : Nat} (h1 : ∀ k, f' k = if f k = r2 then row else f k) (hne : row ≠ r2) (r : Nat) :
    (if r = r2 then [] else E.filter (fun k => f k == r)) ++ (if row = r then E.filter (fun k => f k == r2) else []) = (E.filter (fun k => !(f k == r2)) ++ E.filter (fun k => f k == r2)).filter (fun k => f' k == r) := by
  rw [List.filter_append, List.filter_filter, List.filter_filter]
  congr 1
  · by_cases q : r = r2
    · rw [if_pos q]
      symm
      rw [List.filter_eq_nil_iff]
      intro k _
      rw [h1 k]
      by_cases z : f k = r2
      · simp [z]
      · rw [if_neg z, q]
        have a : (f k == r2) = false := by simpa using z
        rw [a]; simp
    · rw [if_neg q]
      refine List.filter_congr (fun k _ => ?_)
      rw [h1 k]
      by_cases z : f k = r2
      · have a : (r2 == r) = false := by simpa using fun y => q y.symm
        simp [z, a]
      · rw [if_neg z]
        have a : (f k == r2) = false := by simpa using z
        rw [a]; simp
  · by_cases q : row = r
    · rw [if_pos q]
      refine List.filter_congr (fun k _ => ?_)
      rw [h1 k]
      by_cases z : f k = r2
      · simp [z, q]
      · have a : (f k == r2) = false := by simpa using z
        rw [a]; simp
    · rw [if_neg q]
      symm
      rw [List.filter_eq_nil_iff]
      intro k _
      rw [h1 k]
      by_cases z : f k = r2
      · have a : (row == r) = false := by simpa using q
        simp [z, a]
      · have a : (f k == r2) = false := by simpa using z
        rw [a]; simp
/-! the extendible table -/
def rowOf (dep : Nat → Nat) (k : Nat) : Nat := hs k % 2 ^ dep (hs k % 256)
def cntB (E : List Nat) (x b : Nat) : Nat := (E.filter (fun k => hs k % 2 ^ b == x % 2 ^ b)).length
def deepen (dep : Nat → Nat) (x b t : Nat) : Nat → Nat := fun q => if q % 2 ^ b = x % 2 ^ b then t else dep q
def XOK (dep : Nat → Nat) (g : Nat) : Prop := g ≤ 8 ∧ (∀ q, q < 256 → dep q ≤ g) ∧ ∀ q r, q < 256 → r < 256 → q % 2 ^ dep q = r % 2 ^ dep q → dep r = dep q
def XR (key ldp : Nat → Nat) (dp : Nat) (efi ela eco ene : Nat → Nat) (rows : Nat → List Nat) (dep : Nat → Nat) (E : List Nat) (US : Nat → Prop) : Prop :=
  RR efi ela eco ene rows ∧ XOK dep dp ∧ (∀ q, q < 2 ^ dp → ldp q = dep q) ∧ (∀ q, q < 256 → ldp q ≤ 8) ∧ (∀ r, r < 256 → (rows r).map key = E.filter (fun k => rowOf dep k == r)) ∧ ∀ r, r < 256 → ∀ e ∈ rows r, US e
theorem mmp (x : Nat) {a b : Nat} (h : b ≤ a) : x % 2 ^ a % 2 ^ b = x % 2 ^ b := Nat.mod_mod_of_dvd x (Nat.pow_dvd_pow 2 h)
theorem m256 (x : Nat) {b : Nat} (h : b ≤ 8) : x % 256 % 2 ^ b = x % 2 ^ b := mmp x (a := 8) h
theorem mod_lt256 (x : Nat) : x % 256 < 256 := Nat.mod_lt _ (by decide)
theorem XOK.row {dep : Nat → Nat} {g : Nat} (h : XOK dep g) {x k : Nat} (hx : x < 256) : rowOf dep k = x % 2 ^ dep x ↔ hs k % 2 ^ dep x = x % 2 ^ dep x := by
  have hy := mod_lt256 (hs k)
  have hd := h.2.1 _ hy
  have hb := h.2.1 x hx
  have hg := h.1
  unfold rowOf
  constructor
  · intro e
    rcases Nat.le_total (dep (hs k % 256)) (dep x) with q | q
    · have e2 := congrArg (· % 2 ^ dep (hs k % 256)) e
      simp only [Nat.mod_mod, mmp x q] at e2
      have e3 := h.2.2 (hs k % 256) x hy hx (by rw [m256 _ (by omega)]; exact e2)
      rw [e3]
      exact e2
    · have e2 := congrArg (· % 2 ^ dep x) e
      simp only [Nat.mod_mod, mmp _ q] at e2
      exact e2
  · intro e
    have e3 := h.2.2 x (hs k % 256) hx hy (by rw [m256 _ (by omega)]; exact e.symm)
    rw [e3]; exact e
theorem XR.at {key ldp : Nat → Nat} {dp : Nat} {efi ela eco ene : Nat → Nat} {rows : Nat → List Nat} {dep : Nat → Nat} {E : List Nat} {US : Nat → Prop} (h : XR key ldp dp efi ela eco ene rows dep E US) (kx : Nat) : xrow ldp dp kx = rowOf dep kx ∧ ldp (hs kx % 2 ^ dp) = dep (hs kx % 256) := by
  obtain ⟨-, ⟨h1, h2, h3⟩, h4, -, -, -⟩ := h
  have hy := mod_lt256 (hs kx)
  have hd := h2 _ hy
  have hq : hs kx % 2 ^ dp < 2 ^ dp := Nat.mod_lt _ (Nat.two_pow_pos _)
  have e1 : dep (hs kx % 2 ^ dp) = dep (hs kx % 256) := h3 _ _ hy (m2 h1) (by rw [m256 _ (by omega), mmp _ hd])
  have e2 : ldp (hs kx % 2 ^ dp) = dep (hs kx % 256) := (h4 _ hq).trans e1
  refine ⟨?_, e2⟩
  show hs kx % 2 ^ dp % 2 ^ (ldp (hs kx % 2 ^ dp)) = hs kx % 2 ^ dep (hs kx % 256)
  rw [e2, mmp _ hd]
theorem hs_bit (x b : Nat) : x % 2 ^ (b + 1) = x % 2 ^ b + if x / 2 ^ b % 2 ^ 1 = 0 then 0 else 2 ^ b := by
  rw [Nat.pow_succ, Nat.mod_mul]
  have h : x / 2 ^ b % 2 < 2 := Nat.mod_lt _ (by decide)
  show x % 2 ^ b + 2 ^ b * (x / 2 ^ b % 2) = x % 2 ^ b + if x / 2 ^ b % 2 = 0 then 0 else 2 ^ b
  rcases (show x / 2 ^ b % 2 = 0 ∨ x / 2 ^ b % 2 = 1 by omega) with q | q
  · rw [if_pos q, q, Nat.mul_zero]
  · rw [if_neg (by omega), q, Nat.mul_one]

section XM
variable {key ldp : Nat → Nat} {dp : Nat} {efi ela eco ene : Nat → Nat} {rows : Nat → List Nat} {dep : Nat → Nat} {E : List Nat} {US : Nat → Prop}
theorem add_p2_mod (a : Nat) {d n : Nat} (h : d ≤ n) : (a + 2 ^ n) % 2 ^ d = a % 2 ^ d := by
  obtain ⟨c, rfl⟩ : ∃ c, n = d + c := ⟨n - d, by omega⟩
  rw [Nat.pow_add, Nat.add_mul_mod_self_left]
theorem XOK.up {g g' : Nat} (h : XOK dep g) (h1 : g ≤ g') (h2 : g' ≤ 8) : XOK dep g' := ⟨h2, fun q hq => Nat.le_trans (h.2.1 q hq) h1, h.2.2⟩
/-- the directory has doubled -/
theorem XR.double (h : XR key ldp dp efi ela eco ene rows dep E US) (hdp : dp < 8) {ldp1 : Nat → Nat} (h1 : ∀ q, ldp1 q = if 2 ^ dp ≤ q ∧ q < 2 ^ dp + 2 ^ dp then ldp (q - 2 ^ dp) else ldp q) : XR key ldp1 (dp + 1) efi ela eco ene rows dep E US := by
  obtain ⟨hR, hX, hl, hb, hf, hu⟩ := h
  have hp := p7 hdp
  refine ⟨hR, hX.up (by omega) (by omega), fun q hq => ?_, fun q hq => ?_, hf, hu⟩
  · rw [Nat.pow_succ] at hq
    rw [h1 q]
    by_cases z : 2 ^ dp ≤ q
    · rw [if_pos ⟨z, by omega⟩, hl _ (by omega)]
      refine (hX.2.2 (q - 2 ^ dp) q (by omega) (by omega) ?_).symm
      have e := add_p2_mod (q - 2 ^ dp) (hX.2.1 (q - 2 ^ dp) (by omega))
      rw [Nat.sub_add_cancel z] at e
      exact e.symm
    · rw [if_neg (fun y => z y.1), hl _ (by omega)]
  · rw [h1 q]
    split
    · exact hb _ (by omega)
    · exact hb _ hq
theorem deepen_ok {g x : Nat} (h : XOK dep g) (hx : x < 256) (hb : dep x < g) : XOK (deepen dep x (dep x) (dep x + 1)) g := by
  refine ⟨h.1, fun q hq => ?_, fun q r hq hr e => ?_⟩
  · unfold deepen
    split
    · omega
    · exact h.2.1 q hq
  · unfold deepen at e ⊢
    by_cases z : q % 2 ^ dep x = x % 2 ^ dep x
    · rw [if_pos z] at e ⊢
      have e2 := congrArg (· % 2 ^ dep x) e
      simp only [mmp _ (Nat.le_succ (dep x))] at e2
      rw [if_pos (e2.symm.trans z)]
    · rw [if_neg z] at e ⊢
      rw [if_neg]
      · exact h.2.2 q r hq hr e
      · intro y
        have a := h.2.2 x r hx hr y.symm
        have b := h.2.2 q r hq hr e
        rw [a] at b
        rw [← b] at e
        exact z (e.trans y)
/-- a bucket is split, the directory being deep enough -/
theorem XR.deep (h : XR key ldp dp efi ela eco ene rows dep E US) {x : Nat} (hx : x < 256) (hb : dep x < dp) {ldp2 f2 l2 c2 n2 : Nat → Nat} {rows2 : Nat → List Nat} (h1 : ∀ q, ldp2 q = if q < 2 ^ dp ∧ q % 2 ^ dep x = x % 2 ^ dep x then dep x + 1 else ldp q)
    (hR : RR f2 l2 c2 n2 rows2) (h2 : ∀ r, r < 256 → rows2 r = va_up rows (x % 2 ^ dep x) [] r ++ (rows (x % 2 ^ dep x)).filter (fun e => tg key (x % 2 ^ dep x) (x % 2 ^ dep x + 2 ^ dep x) (dep x) e == r)) :
    XR key ldp2 dp f2 l2 c2 n2 rows2 (deepen dep x (dep x) (dep x + 1)) E US := by
  obtain ⟨-, hX, hl, hbd, hf, hu⟩ := h
  have hg := hX.1
  have hrow : x % 2 ^ dep x < 256 := m2 (by omega)
  refine ⟨hR, deepen_ok hX hx hb, fun q hq => ?_, fun q hq => ?_, fun r hr => ?_, fun r hr e he => ?_⟩
  · rw [h1 q]
    unfold deepen
    by_cases z : q % 2 ^ dep x = x % 2 ^ dep x
    · rw [if_pos ⟨hq, z⟩, if_pos z]
    · rw [if_neg (fun y => z y.2), if_neg z, hl q hq]
  · rw [h1 q]
    split
    · omega
    · exact hbd q hq
  · rw [h2 r hr, List.map_append]
    have e1 : (va_up rows (x % 2 ^ dep x) [] r).map key = if r = x % 2 ^ dep x then [] else E.filter (fun k => rowOf dep k == r) := by
      by_cases z : r = x % 2 ^ dep x
      · rw [if_pos z, z, up_s]; rfl
      · rw [if_neg z, up_n _ _ z, hf r hr]
    have e2 : ((rows (x % 2 ^ dep x)).filter (fun e => tg key (x % 2 ^ dep x) (x % 2 ^ dep x + 2 ^ dep x) (dep x) e == r)).map key = (E.filter (fun k => rowOf dep k == x % 2 ^ dep x)).filter (fun k => (if hs k / 2 ^ dep x % 2 ^ 1 = 0 then x % 2 ^ dep x else x % 2 ^ dep x + 2 ^ dep x) == r) := by
      rw [← hf _ hrow, List.filter_map]
      rfl
    rw [e1, e2]
    refine split_filter (r2 := x % 2 ^ dep x + 2 ^ dep x) (fun k => ?_) (fun k => by split <;> simp) (fun k hk => ?_) r
    · unfold rowOf deepen
      by_cases z : rowOf dep k = x % 2 ^ dep x
      · have z2 := (hX.row hx).mp z
        unfold rowOf at z
        rw [if_pos z, if_pos (by rw [m256 _ (by omega)]; exact z2), hs_bit, z2]
        by_cases y : hs k / 2 ^ dep x % 2 ^ 1 = 0
        · rw [if_pos y, if_pos y, Nat.add_zero]
        · rw [if_neg y, if_neg y]
      · have z2 : ¬ hs k % 2 ^ dep x = x % 2 ^ dep x := fun y => z ((hX.row hx).mpr y)
        unfold rowOf at z
        rw [if_neg z, if_neg (by rw [m256 _ (by omega)]; exact z2)]
    · have hlt : x % 2 ^ dep x < 2 ^ dep x := Nat.mod_lt _ (Nat.two_pow_pos _)
      have hk2 := hk
      unfold rowOf at hk2
      have hd : dep x ≤ dep (hs k % 256) := by
        rcases Nat.lt_or_ge (dep (hs k % 256)) (dep x) with q | q
        · have := Nat.mod_lt (hs k) (Nat.two_pow_pos (dep (hs k % 256)))
          have := p2_le (Nat.le_of_lt q)
          omega
        · exact q
      have e3 := congrArg (· % 2 ^ dep x) hk2
      simp only [mmp _ hd, add_p2_mod _ (Nat.le_refl (dep x)), Nat.mod_mod] at e3
      have e4 := (hX.row hx).mpr e3
      rw [hk] at e4
      have := Nat.two_pow_pos (dep x)
      omega
  · rw [h2 r hr] at he
    rcases List.mem_append.mp he with he | he
    · by_cases z : r = x % 2 ^ dep x
      · rw [z, up_s] at he; exact absurd he List.not_mem_nil
      · rw [up_n _ _ z] at he; exact hu r hr e he
    · exact hu _ hrow e (List.mem_filter.mp he).1
/-- a key comes behind the others -/
theorem XR.add (h : XR key ldp dp efi ela eco ene rows dep E US) {f2 l2 c2 n2 : Nat → Nat} {en : Nat} {US2 : Nat → Prop} (hR : RR f2 l2 c2 n2 (va_up rows (rowOf dep (key en)) (rows (rowOf dep (key en)) ++ [en]))) (h1 : ∀ e, US e → US2 e) (h2 : US2 en) :
    XR key ldp dp f2 l2 c2 n2 (va_up rows (rowOf dep (key en)) (rows (rowOf dep (key en)) ++ [en])) dep (E ++ [key en]) US2 := by
  obtain ⟨-, hX, hl, hbd, hf, hu⟩ := h
  refine ⟨hR, hX, hl, hbd, fun r hr => ?_, fun r hr e he => ?_⟩
  · rw [List.filter_append]
    by_cases z : r = rowOf dep (key en)
    · rw [z, up_s, List.map_append, hf _ (z ▸ hr)]
      simp
    · rw [up_n _ _ z, hf r hr]
      have a : (rowOf dep (key en) == r) = false := by simpa using fun y => z (Eq.symm y)
      simp [a]
  · by_cases z : r = rowOf dep (key en)
    · rw [z, up_s] at he
      rcases List.mem_append.mp he with he | he
      · exact h1 e (hu _ (z ▸ hr) e he)
      · rw [List.mem_singleton.mp he]; exact h2
    · rw [up_n _ _ z] at he; exact h1 e (hu r hr e he)
/-- a key is taken out -/
theorem XR.del (h : XR key ldp dp efi ela eco ene rows dep E US) {f2 l2 c2 n2 : Nat → Nat} {en : Nat} {US2 : Nat → Prop} (hR : RR f2 l2 c2 n2 (fun r => (rows r).filter (· != en))) (hen : US en) (hinj : ∀ e f, US e → US f → key e = key f → e = f) (h1 : ∀ e, US e → e ≠ en → US2 e) :
    XR key ldp dp f2 l2 c2 n2 (fun r => (rows r).filter (· != en)) dep (E.filter (· != key en)) US2 := by
  obtain ⟨-, hX, hl, hbd, hf, hu⟩ := h
  refine ⟨hR, hX, hl, hbd, fun r hr => ?_, fun r hr e he => ?_⟩
  · have e1 : (rows r).filter (· != en) = (rows r).filter ((fun k => k != key en) ∘ key) := List.filter_congr (fun e he => by
      show (e != en) = (key e != key en)
      by_cases z : e = en
      · simp [z]
      · have a : key e ≠ key en := fun y => z (hinj e en (hu r hr e he) hen y)
        rw [show (e != en) = true from by simpa using z, show (key e != key en) = true from by simpa using a])
    show ((rows r).filter (· != en)).map key = _
    rw [e1, ← List.filter_map, hf r hr, List.filter_filter, List.filter_filter]
    exact List.filter_congr (fun k _ => Bool.and_comm _ _)
  · obtain ⟨a, b⟩ := List.mem_filter.mp he
    exact h1 e (hu r hr e a) (by simpa using b)
theorem bit_two (x c : Nat) : x % 2 ^ (c + 1) = x % 2 ^ c ∨ x % 2 ^ (c + 1) = x % 2 ^ c + 2 ^ c := by
  rw [hs_bit]
  split
  · exact Or.inl (Nat.add_zero _)
  · exact Or.inr rfl
theorem deepen_back {g x c y0 y1 : Nat} (h : XOK dep g) (h0 : y0 < 256) (h1 : y1 < 256) (d0 : dep y0 = c + 1) (d1 : dep y1 = c + 1) (e0 : y0 % 2 ^ (c + 1) = x % 2 ^ c) (e1 : y1 % 2 ^ (c + 1) = x % 2 ^ c + 2 ^ c) : XOK (deepen dep x c c) g := by
  have hc := h.2.1 y0 h0
  refine ⟨h.1, fun q hq => ?_, fun q r hq hr e => ?_⟩
  · unfold deepen
    split
    · omega
    · exact h.2.1 q hq
  · unfold deepen at e ⊢
    by_cases z : q % 2 ^ c = x % 2 ^ c
    · rw [if_pos z] at e ⊢
      rw [if_pos (e.symm.trans z)]
    · rw [if_neg z] at e ⊢
      rw [if_neg]
      · exact h.2.2 q r hq hr e
      · intro y
        have b := h.2.2 q r hq hr e
        have hr2 : dep r = c + 1 := by
          rcases bit_two r c with w | w
          · rw [← d0]; exact h.2.2 y0 r h0 hr (by rw [d0, e0, w, y])
          · rw [← d1]; exact h.2.2 y1 r h1 hr (by rw [d1, e1, w, y])
        rw [hr2] at b
        rw [← b] at e
        have e3 := congrArg (· % 2 ^ c) e
        simp only [mmp _ (Nat.le_succ c)] at e3
        exact z (e3.trans y)
def mvB (E : List Nat) (p b : Nat) : List Nat := E.filter (fun k => !(hs k % 2 ^ b == p % 2 ^ b)) ++ E.filter (fun k => hs k % 2 ^ b == p % 2 ^ b)
/-- two buckets merge -/
theorem XR.merge (h : XR key ldp dp efi ela eco ene rows dep E US) {x c y0 y1 pp : Nat} (h0 : y0 < 256) (h1 : y1 < 256) (d0 : dep y0 = c + 1) (d1 : dep y1 = c + 1) (e0 : y0 % 2 ^ (c + 1) = x % 2 ^ c) (e1 : y1 % 2 ^ (c + 1) = x % 2 ^ c + 2 ^ c) (ep : pp % 2 ^ (c + 1) = x % 2 ^ c + 2 ^ c)
    {ldp2 f2 l2 c2 n2 : Nat → Nat} {rows2 : Nat → List Nat} (g1 : ∀ q, ldp2 q = if q < 2 ^ dp ∧ q % 2 ^ c = x % 2 ^ c then c else ldp q) (hR : RR f2 l2 c2 n2 rows2)
    (g2 : ∀ r, r < 256 → rows2 r = va_up rows (x % 2 ^ c + 2 ^ c) [] r ++ if x % 2 ^ c = r then rows (x % 2 ^ c + 2 ^ c) else []) :
    XR key ldp2 dp f2 l2 c2 n2 rows2 (deepen dep x c c) (mvB E pp (c + 1)) US := by
  obtain ⟨-, hX, hl, hbd, hf, hu⟩ := h
  have hg := hX.1
  have hc := hX.2.1 y0 h0
  have hlt : x % 2 ^ c < 2 ^ c := Nat.mod_lt _ (Nat.two_pow_pos _)
  have hpc := p7 (dp := c) (by omega)
  have r1 : ∀ k, rowOf dep k = x % 2 ^ c + 2 ^ c ↔ hs k % 2 ^ (c + 1) = x % 2 ^ c + 2 ^ c := fun k => by
    have := hX.row (k := k) h1
    rw [d1, e1] at this
    exact this
  have r0 : ∀ k, rowOf dep k = x % 2 ^ c ↔ hs k % 2 ^ (c + 1) = x % 2 ^ c := fun k => by
    have := hX.row (k := k) h0
    rw [d0, e0] at this
    exact this
  refine ⟨hR, deepen_back hX h0 h1 d0 d1 e0 e1, fun q hq => ?_, fun q hq => ?_, fun r hr => ?_, fun r hr e he => ?_⟩
  · rw [g1 q]
    unfold deepen
    by_cases z : q % 2 ^ c = x % 2 ^ c
    · rw [if_pos ⟨hq, z⟩, if_pos z]
    · rw [if_neg (fun y => z y.2), if_neg z, hl q hq]
  · rw [g1 q]
    split
    · omega
    · exact hbd q hq
  · rw [g2 r hr, List.map_append]
    have w1 : (va_up rows (x % 2 ^ c + 2 ^ c) [] r).map key = if r = x % 2 ^ c + 2 ^ c then [] else E.filter (fun k => rowOf dep k == r) := by
      by_cases z : r = x % 2 ^ c + 2 ^ c
      · rw [if_pos z, z, up_s]; rfl
      · rw [if_neg z, up_n _ _ z, hf r hr]
    have w2 : (if x % 2 ^ c = r then rows (x % 2 ^ c + 2 ^ c) else []).map key = if x % 2 ^ c = r then E.filter (fun k => rowOf dep k == x % 2 ^ c + 2 ^ c) else [] := by
      split
      · exact hf _ (by omega)
      · rfl
    have w3 : mvB E pp (c + 1) = E.filter (fun k => !(rowOf dep k == x % 2 ^ c + 2 ^ c)) ++ E.filter (fun k => rowOf dep k == x % 2 ^ c + 2 ^ c) := by
      have w4 : ∀ k, (hs k % 2 ^ (c + 1) == pp % 2 ^ (c + 1)) = (rowOf dep k == x % 2 ^ c + 2 ^ c) := fun k => by
        rw [ep]
        by_cases z : rowOf dep k = x % 2 ^ c + 2 ^ c
        · rw [z, (r1 k).mp z]
        · have z2 : ¬ hs k % 2 ^ (c + 1) = x % 2 ^ c + 2 ^ c := fun y => z ((r1 k).mpr y)
          rw [show (rowOf dep k == x % 2 ^ c + 2 ^ c) = false from by simpa using z, show (hs k % 2 ^ (c + 1) == x % 2 ^ c + 2 ^ c) = false from by simpa using z2]
      unfold mvB
      simp only [w4]
    rw [w1, w2, w3]
    refine merge_filter (fun k => ?_) (by have := Nat.two_pow_pos c; omega) r
    by_cases z : hs k % 2 ^ c = x % 2 ^ c
    · have w5 : rowOf (deepen dep x c c) k = x % 2 ^ c := by
        unfold rowOf deepen
        rw [if_pos (by rw [m256 _ (by omega)]; exact z)]
        exact z
      rw [w5]
      rcases bit_two (hs k) c with w | w
      · rw [z] at w
        have := (r0 k).mpr w
        rw [if_neg (by have := Nat.two_pow_pos c; omega), this]
      · rw [z] at w
        rw [if_pos ((r1 k).mpr w)]
    · have w5 : rowOf (deepen dep x c c) k = rowOf dep k := by
        unfold rowOf deepen
        rw [if_neg (by rw [m256 _ (by omega)]; exact z)]
      rw [w5, if_neg]
      intro w
      have w6 := congrArg (· % 2 ^ c) ((r1 k).mp w)
      simp only [mmp _ (Nat.le_succ c), add_p2_mod _ (Nat.le_refl c), Nat.mod_mod] at w6
      exact z w6
  · rw [g2 r hr] at he
    rcases List.mem_append.mp he with he | he
    · by_cases z : r = x % 2 ^ c + 2 ^ c
      · rw [z, up_s] at he; exact absurd he List.not_mem_nil
      · rw [up_n _ _ z] at he; exact hu r hr e he
    · by_cases z : x % 2 ^ c = r
      · rw [if_pos z] at he; exact hu _ (by omega) e he
      · rw [if_neg z] at he; exact absurd he List.not_mem_nil
theorem filter_two {E : List Nat} {f g : Nat → Nat} {a b c : Nat} (hab : a ≠ b) (h : ∀ k, g k = c ↔ f k = a ∨ f k = b) : (E.filter (fun k => f k == a)).length + (E.filter (fun k => f k == b)).length = (E.filter (fun k => g k == c)).length := by
  induction E with
  | nil => rfl
  | cons k E ih =>
    simp only [List.filter_cons]
    by_cases z1 : f k = a
    · have z2 : ¬ f k = b := fun y => hab (z1.symm.trans y)
      have z3 := (h k).mpr (Or.inl z1)
      rw [if_pos (by simpa using z1), if_neg (by simpa using z2), if_pos (by simpa using z3)]
      simp only [List.length_cons]
      omega
    · by_cases z2 : f k = b
      · have z3 := (h k).mpr (Or.inr z2)
        rw [if_neg (by simpa using z1), if_pos (by simpa using z2), if_pos (by simpa using z3)]
        simp only [List.length_cons]
        omega
      · have z3 : ¬ g k = c := fun y => ((h k).mp y).elim z1 z2
        rw [if_neg (by simpa using z1), if_neg (by simpa using z2), if_neg (by simpa using z3)]
        exact ih
theorem xor_p2 (x c : Nat) : (x ^^^ 2 ^ c) % 2 ^ (c + 1) = if x / 2 ^ c % 2 ^ 1 = 0 then x % 2 ^ c + 2 ^ c else x % 2 ^ c := by
  rw [hs_bit, Nat.xor_mod_two_pow, Nat.xor_div_two_pow, Nat.mod_self, Nat.xor_zero, Nat.div_self (Nat.two_pow_pos c)]
  have h : x / 2 ^ c % 2 < 2 := Nat.mod_lt _ (by decide)
  show (x % 2 ^ c + if (x / 2 ^ c ^^^ 1) % 2 = 0 then 0 else 2 ^ c) = if x / 2 ^ c % 2 = 0 then x % 2 ^ c + 2 ^ c else x % 2 ^ c
  have h2 : (x / 2 ^ c ^^^ 1) % 2 = (x / 2 ^ c % 2) ^^^ 1 := Nat.xor_mod_two_pow (n := 1)
  rw [h2]
  rcases (show x / 2 ^ c % 2 = 0 ∨ x / 2 ^ c % 2 = 1 by omega) with q | q
  · rw [q]; rfl
  · rw [q]; rfl
theorem or_p2 (x c : Nat) : (x ||| 2 ^ c) % 2 ^ (c + 1) = x % 2 ^ c + 2 ^ c := by
  rw [hs_bit, Nat.or_mod_two_pow, Nat.or_div_two_pow, Nat.mod_self, Nat.or_zero, Nat.div_self (Nat.two_pow_pos c), if_neg]
  show ¬ (x / 2 ^ c ||| 1) % 2 = 0
  rw [Nat.or_mod_two_eq_one.mpr (Or.inr rfl)]
  decide
/-- the two buckets of a merge -/
theorem two_of {x c : Nat} (hx : x < 256) (hc : c < 8) (d : dep x = c + 1) (d2 : dep (x ^^^ 2 ^ c) = c + 1) : ∃ y0 y1, y0 < 256 ∧ y1 < 256 ∧ dep y0 = c + 1 ∧ dep y1 = c + 1 ∧ y0 % 2 ^ (c + 1) = x % 2 ^ c ∧ y1 % 2 ^ (c + 1) = x % 2 ^ c + 2 ^ c := by
  have hb : x ^^^ 2 ^ c < 256 := Nat.xor_lt_two_pow (n := 8) hx (Nat.pow_lt_pow_right (by decide) hc)
  have e := xor_p2 x c
  have e2 := hs_bit x c
  by_cases q : x / 2 ^ c % 2 ^ 1 = 0
  · rw [if_pos q] at e e2
    exact ⟨x, _, hx, hb, d, d2, e2, e⟩
  · rw [if_neg q] at e e2
    exact ⟨_, x, hb, hx, d2, d, e, e2⟩
end XM
end
section

def pcond (cap : Nat) (E : List Nat) (x : Nat) (X : (Nat → Nat) × Nat × Int32 × Int32) : Bool := decide (X.1 x < 8) && decide (cap ≤ cntB E x (X.1 x))
def pstep (x : Nat) (X : (Nat → Nat) × Nat × Int32 × Int32) : (Nat → Nat) × Nat × Int32 × Int32 :=
  (deepen X.1 x (X.1 x) (X.1 x + 1), if X.1 x = X.2.1 then X.2.1 + 1 else X.2.1, if X.1 x = X.2.1 then X.2.2.1 + nI 1 else X.2.2.1, X.2.2.2 + nI 1)
/-- splits, for a new key of the hash x, as long as they are due -/
def pS (cap : Nat) (E : List Nat) (x : Nat) : Nat → (Nat → Nat) × Nat × Int32 × Int32 → (Nat → Nat) × Nat × Int32 × Int32
  | 0, X => X
  | n + 1, X => if pcond cap E x X = true then pS cap E x n (pstep x X) else X
theorem pS_go {cap : Nat} {E : List Nat} {x k : Nat} {X R : (Nat → Nat) × Nat × Int32 × Int32} (h : pS cap E x k X = R) (hk : 0 < k) (h1 : X.1 x < 8) (h2 : cap ≤ cntB E x (X.1 x)) : pS cap E x (k - 1) (pstep x X) = R := by
  obtain ⟨j, rfl⟩ : ∃ j, k = j + 1 := ⟨k - 1, by omega⟩
  rw [← h]
  show pS cap E x j (pstep x X) = if pcond cap E x X = true then pS cap E x j (pstep x X) else X
  rw [if_pos]
  simp [pcond, h1, h2]
theorem pS_end {cap : Nat} {E : List Nat} {x k : Nat} {X R : (Nat → Nat) × Nat × Int32 × Int32} (h : pS cap E x k X = R) (h1 : 8 ≤ X.1 x ∨ cntB E x (X.1 x) < cap) : X = R := by
  rw [← h]
  cases k with
  | zero => rfl
  | succ j =>
    show X = if pcond cap E x X = true then pS cap E x j (pstep x X) else X
    rw [if_neg]
    simp only [pcond, Bool.and_eq_true, decide_eq_true_eq]
    omega
def mcond (cap x : Nat) (X : (Nat → Nat) × List Nat × Int32) : Bool := decide (0 < X.1 x) && (decide (X.1 (x ^^^ 2 ^ (X.1 x - 1)) = X.1 x) && decide (cntB X.2.1 x (X.1 x - 1) ≤ cap))
def mstep (x : Nat) (X : (Nat → Nat) × List Nat × Int32) : (Nat → Nat) × List Nat × Int32 :=
  (deepen X.1 x (X.1 x - 1) (X.1 x - 1), mvB X.2.1 (x ||| 2 ^ (X.1 x - 1)) (X.1 x), X.2.2 + nI 1)
/-- merges, at the hash x, as long as they are due -/
def mS (cap x : Nat) : Nat → (Nat → Nat) × List Nat × Int32 → (Nat → Nat) × List Nat × Int32
  | 0, X => X
  | n + 1, X => if mcond cap x X = true then mS cap x n (mstep x X) else X
theorem mS_go {cap x k : Nat} {X R : (Nat → Nat) × List Nat × Int32} (h : mS cap x k X = R) (hk : 0 < k) (h1 : mcond cap x X = true) : mS cap x (k - 1) (mstep x X) = R := by
  obtain ⟨j, rfl⟩ : ∃ j, k = j + 1 := ⟨k - 1, by omega⟩
  rw [← h]
  show mS cap x j (mstep x X) = if mcond cap x X = true then mS cap x j (mstep x X) else X
  rw [if_pos h1]
theorem mS_end {cap x k : Nat} {X R : (Nat → Nat) × List Nat × Int32} (h : mS cap x k X = R) (h1 : ¬ mcond cap x X = true) : X = R := by
  rw [← h]
  cases k with
  | zero => rfl
  | succ j => exact (if_neg h1).symm
theorem mcond_iff {cap x : Nat} {X : (Nat → Nat) × List Nat × Int32} : mcond cap x X = true ↔ 0 < X.1 x ∧ X.1 (x ^^^ 2 ^ (X.1 x - 1)) = X.1 x ∧ cntB X.2.1 x (X.1 x - 1) ≤ cap := by
  simp [mcond]
/-- the greatest of so many numbers -/
def mx (f : Nat → Nat) : Nat → Nat
  | 0 => 0
  | n + 1 => max (mx f n) (f n)
theorem mx_le {f : Nat → Nat} : ∀ {n q : Nat}, q < n → f q ≤ mx f n
  | n + 1, q, h => by
    show f q ≤ max (mx f n) (f n)
    rcases Nat.lt_or_eq_of_le (Nat.le_of_lt_succ h) with z | rfl
    · exact Nat.le_trans (mx_le z) (Nat.le_max_left _ _)
    · exact Nat.le_max_right _ _
theorem mx_is {f : Nat → Nat} : ∀ {n : Nat}, mx f n = 0 ∨ ∃ q, q < n ∧ f q = mx f n
  | 0 => Or.inl rfl
  | n + 1 => by
    show max (mx f n) (f n) = 0 ∨ ∃ q, q < n + 1 ∧ f q = max (mx f n) (f n)
    rcases Nat.le_total (mx f n) (f n) with z | z
    · rw [Nat.max_eq_right z]; exact Or.inr ⟨n, by omega, rfl⟩
    · rw [Nat.max_eq_left z]
      rcases mx_is (f := f) (n := n) with y | ⟨q, hq, e⟩
      · exact Or.inl y
      · exact Or.inr ⟨q, by omega, e⟩
theorem mx_eq {f : Nat → Nat} {n g : Nat} (h1 : ∀ q, q < n → f q ≤ g) (h2 : g = 0 ∨ ∃ q, q < n ∧ f q = g) : g = mx f n := by
  apply Nat.le_antisymm
  · rcases h2 with h | ⟨q, hq, e⟩
    · omega
    · rw [← e]; exact mx_le hq
  · rcases mx_is (f := f) (n := n) with h | ⟨q, hq, e⟩
    · omega
    · rw [← e]; exact h1 q hq
section XN
variable {key ldp : Nat → Nat} {dp : Nat} {efi ela eco ene : Nat → Nat} {rows : Nat → List Nat} {dep : Nat → Nat} {E : List Nat} {US : Nat → Prop}
theorem XR.co (h : XR key ldp dp efi ela eco ene rows dep E US) {r : Nat} (hr : r < 256) : eco r = (E.filter (fun k => rowOf dep k == r)).length := by
  rw [(h.1.1 r hr).1, ← h.2.2.2.2.1 r hr, List.length_map]
theorem XR.cnt (h : XR key ldp dp efi ela eco ene rows dep E US) {x : Nat} (hx : x < 256) : eco (x % 2 ^ dep x) = cntB E x (dep x) := by
  have hg := h.2.1.1
  have hb := h.2.1.2.1 x hx
  rw [h.co (m2 (by omega))]
  unfold cntB
  have : ∀ k, (rowOf dep k == x % 2 ^ dep x) = (hs k % 2 ^ dep x == x % 2 ^ dep x) := fun k => by
    rw [Bool.eq_iff_iff, beq_iff_eq, beq_iff_eq]
    exact h.2.1.row hx
  simp only [this]
theorem XR.co_le (h : XR key ldp dp efi ela eco ene rows dep E US) {r : Nat} (hr : r < 256) : eco r ≤ 120 := by
  rw [(h.1.1 r hr).1]; exact h.1.len hr
theorem rowOf_x {dep : Nat → Nat} {k : Nat} (h : dep (hs k % 256) ≤ 8) : rowOf dep k = hs k % 256 % 2 ^ dep (hs k % 256) := (m256 _ h).symm
theorem XR.canM (h : XR key ldp dp efi ela eco ene rows dep E US) {x cp : Nat} {mrg : Int32} (hx : x < 256) : (0 < ldp (x % 2 ^ dep x) ∧ ldp (bdy ldp (x % 2 ^ dep x)) = ldp (x % 2 ^ dep x) ∧ eco (x % 2 ^ dep x) + eco (bdy ldp (x % 2 ^ dep x)) ≤ cp) ↔ mcond cp x (dep, E, mrg) = true := by
  rw [mcond_iff]
  show _ ↔ 0 < dep x ∧ dep (x ^^^ 2 ^ (dep x - 1)) = dep x ∧ cntB E x (dep x - 1) ≤ cp
  obtain ⟨hR, hX, hl, hbd, hf, hu⟩ := id h
  have hg := hX.1
  have hb := hX.2.1 x hx
  have hr : x % 2 ^ dep x < 2 ^ dp := Nat.lt_of_lt_of_le (Nat.mod_lt _ (Nat.two_pow_pos _)) (p2_le hb)
  have hr2 : x % 2 ^ dep x < 256 := m2 (by omega)
  have e1 : ldp (x % 2 ^ dep x) = dep x := (hl _ hr).trans (hX.2.2 x _ hx hr2 (Nat.mod_mod _ _).symm)
  rw [e1]
  by_cases z : 0 < dep x
  · obtain ⟨c, hc⟩ : ∃ c, dep x = c + 1 := ⟨dep x - 1, by omega⟩
    have hbx : x ^^^ 2 ^ c < 256 := Nat.xor_lt_two_pow (n := 8) hx (Nat.pow_lt_pow_right (by decide) (by omega))
    have e2 : bdy ldp (x % 2 ^ dep x) = (x ^^^ 2 ^ c) % 2 ^ (c + 1) := by
      unfold bdy
      rw [e1, Nat.mod_mod, hc, Nat.add_sub_cancel, Nat.xor_mod_two_pow, Nat.mod_eq_of_lt (Nat.pow_lt_pow_right (by decide) (Nat.lt_succ_self c))]
    have e3 : (x ^^^ 2 ^ c) % 2 ^ (c + 1) < 2 ^ dp := Nat.lt_of_lt_of_le (Nat.mod_lt _ (Nat.two_pow_pos _)) (p2_le (by omega))
    have e4 : (x ^^^ 2 ^ c) % 2 ^ (c + 1) < 256 := m2 (by omega)
    rw [e2, hl _ e3, hc, Nat.add_sub_cancel]
    have e5 : dep ((x ^^^ 2 ^ c) % 2 ^ (c + 1)) = c + 1 ↔ dep (x ^^^ 2 ^ c) = c + 1 := by
      constructor
      · intro w
        rw [← w]
        exact hX.2.2 _ _ e4 hbx (by rw [w, Nat.mod_mod])
      · intro w
        exact (hX.2.2 _ _ hbx e4 (by rw [w, Nat.mod_mod])).trans w
    rw [e5]
    constructor
    · rintro ⟨-, w, w2⟩
      refine ⟨by omega, w, ?_⟩
      obtain ⟨y0, y1, a0, a1, b0, b1, c0, c1⟩ := two_of hx (by omega) hc w
      have k0 := h.cnt a0
      have k1 := h.cnt a1
      rw [b0, c0] at k0
      rw [b1, c1] at k1
      have ft := filter_two (E := E) (f := fun k => hs k % 2 ^ (c + 1)) (g := fun k => hs k % 2 ^ c) (a := x % 2 ^ c) (b := x % 2 ^ c + 2 ^ c) (c := x % 2 ^ c) (by have := Nat.two_pow_pos c; omega) (fun k => by
        constructor
        · intro y
          rcases bit_two (hs k) c with v | v <;> rw [y] at v
          · exact Or.inl v
          · exact Or.inr v
        · rintro (y | y) <;> (have y2 := congrArg (· % 2 ^ c) y; simp only [mmp _ (Nat.le_succ c), add_p2_mod _ (Nat.le_refl c), Nat.mod_mod] at y2; exact y2))
      have hsum : eco (x % 2 ^ (c + 1)) + eco ((x ^^^ 2 ^ c) % 2 ^ (c + 1)) = eco (x % 2 ^ c) + eco (x % 2 ^ c + 2 ^ c) := by
        rw [xor_p2, hs_bit]
        split
        · rw [Nat.add_zero]
        · rw [Nat.add_comm]
      unfold cntB at k0 k1 ⊢
      rw [c0] at k0
      rw [c1] at k1
      omega
    · rintro ⟨-, w, w2⟩
      refine ⟨by omega, w, ?_⟩
      obtain ⟨y0, y1, a0, a1, b0, b1, c0, c1⟩ := two_of hx (by omega) hc w
      have k0 := h.cnt a0
      have k1 := h.cnt a1
      rw [b0, c0] at k0
      rw [b1, c1] at k1
      have ft := filter_two (E := E) (f := fun k => hs k % 2 ^ (c + 1)) (g := fun k => hs k % 2 ^ c) (a := x % 2 ^ c) (b := x % 2 ^ c + 2 ^ c) (c := x % 2 ^ c) (by have := Nat.two_pow_pos c; omega) (fun k => by
        constructor
        · intro y
          rcases bit_two (hs k) c with v | v <;> rw [y] at v
          · exact Or.inl v
          · exact Or.inr v
        · rintro (y | y) <;> (have y2 := congrArg (· % 2 ^ c) y; simp only [mmp _ (Nat.le_succ c), add_p2_mod _ (Nat.le_refl c), Nat.mod_mod] at y2; exact y2))
      have hsum : eco (x % 2 ^ (c + 1)) + eco ((x ^^^ 2 ^ c) % 2 ^ (c + 1)) = eco (x % 2 ^ c) + eco (x % 2 ^ c + 2 ^ c) := by
        rw [xor_p2, hs_bit]
        split
        · rw [Nat.add_zero]
        · rw [Nat.add_comm]
      unfold cntB at k0 k1 w2
      rw [c0] at k0
      rw [c1] at k1
      omega
  · constructor <;> rintro ⟨w, -⟩ <;> exact absurd w z
/-- the directory has halved as often as it may -/
theorem XR.halve (h : XR key ldp dp efi ela eco ene rows dep E US) {g : Nat} (h1 : g ≤ dp) (h2 : g = 0 ∨ ∃ q, q < 2 ^ g ∧ ldp q = g) (h3 : ∀ j, g < j → j ≤ dp → ¬ ∃ q, q < 2 ^ j ∧ ldp q = j) : g = mx dep 256 ∧ XR key ldp g efi ela eco ene rows dep E US := by
  obtain ⟨hR, hX, hl, hbd, hf, hu⟩ := h
  have hg := hX.1
  have hall : ∀ q, q < 256 → dep q ≤ g := by
    intro q hq
    rcases Nat.lt_or_ge g (dep q) with z | z
    · have hd := hX.2.1 q hq
      have a : q % 2 ^ dep q < 2 ^ dep q := Nat.mod_lt _ (Nat.two_pow_pos _)
      have b : dep (q % 2 ^ dep q) = dep q := hX.2.2 q _ hq (m2 (by omega)) (Nat.mod_mod _ _).symm
      exact absurd ⟨q % 2 ^ dep q, a, (hl _ (Nat.lt_of_lt_of_le a (p2_le hd))).trans b⟩ (h3 (dep q) z hd)
    · exact z
  refine ⟨mx_eq hall (h2.imp id (fun ⟨q, a, b⟩ => ⟨q, Nat.lt_of_lt_of_le a (p8 (by omega)), (hl q (Nat.lt_of_lt_of_le a (p2_le h1))).symm.trans b⟩)), hR, ⟨by omega, hall, hX.2.2⟩, fun q hq => hl q (Nat.lt_of_lt_of_le hq (p2_le h1)), hbd, hf, hu⟩
theorem XR.empty0 {f l c n ldp2 : Nat → Nat} {US2 : Nat → Prop} (h : RR f l c n (fun _ => [])) (hbd : ∀ q, q < 256 → ldp q ≤ 8) (h2 : ldp2 = va_up ldp 0 0) : XR key ldp2 0 f l c n (fun _ => []) (fun _ => 0) [] US2 := by
  refine ⟨h, ⟨by decide, fun _ _ => Nat.le_refl 0, fun _ _ _ _ _ => rfl⟩, fun q hq => ?_, fun q hq => ?_, fun r _ => rfl, fun r _ e he => absurd he List.not_mem_nil⟩
  · have : q = 0 := by simpa using hq
    rw [h2, this, up_s]
  · rw [h2]
    by_cases z : q = 0
    · rw [z, up_s]; omega
    · rw [up_n _ _ z]; exact hbd q hq
end XN
end
section
theorem dX0_splitBucket_0 : decode cX0_splitBucket 0 = .ok (.iload_n 2, 1) := by decide +kernel
theorem dX0_splitBucket_1 : decode cX0_splitBucket 1 = .ok (.aload_n 0, 1) := by decide +kernel
theorem dX0_splitBucket_2 : decode cX0_splitBucket 2 = .ok (.getfield 15, 3) := by decide +kernel
theorem dX0_splitBucket_5 : decode cX0_splitBucket 5 = .ok (.if_icmp .ne 7, 3) := by decide +kernel
theorem dX0_splitBucket_8 : decode cX0_splitBucket 8 = .ok (.aload_n 0, 1) := by decide +kernel
theorem dX0_splitBucket_9 : decode cX0_splitBucket 9 = .ok (.invokevirtual 111, 3) := by decide +kernel
theorem dX0_splitBucket_12 : decode cX0_splitBucket 12 = .ok (.aload_n 0, 1) := by decide +kernel
theorem dX0_splitBucket_13 : decode cX0_splitBucket 13 = .ok (.iload_n 1, 1) := by decide +kernel
theorem dX0_splitBucket_14 : decode cX0_splitBucket 14 = .ok (.iload_n 2, 1) := by decide +kernel
theorem dX0_splitBucket_15 : decode cX0_splitBucket 15 = .ok (.iload_n 2, 1) := by decide +kernel
theorem dX0_splitBucket_16 : decode cX0_splitBucket 16 = .ok (.iconst 1, 1) := by decide +kernel
theorem dX0_splitBucket_17 : decode cX0_splitBucket 17 = .ok (.iadd, 1) := by decide +kernel
theorem dX0_splitBucket_18 : decode cX0_splitBucket 18 = .ok (.invokevirtual 114, 3) := by decide +kernel
theorem dX0_splitBucket_21 : decode cX0_splitBucket 21 = .ok (.aload_n 0, 1) := by decide +kernel
theorem dX0_splitBucket_22 : decode cX0_splitBucket 22 = .ok (.getfield 40, 3) := by decide +kernel
theorem dX0_splitBucket_25 : decode cX0_splitBucket 25 = .ok (.iload_n 1, 1) := by decide +kernel
theorem dX0_splitBucket_26 : decode cX0_splitBucket 26 = .ok (.iload_n 1, 1) := by decide +kernel
theorem dX0_splitBucket_27 : decode cX0_splitBucket 27 = .ok (.iload_n 1, 1) := by decide +kernel
theorem dX0_splitBucket_28 : decode cX0_splitBucket 28 = .ok (.iconst 1, 1) := by decide +kernel
theorem dX0_splitBucket_29 : decode cX0_splitBucket 29 = .ok (.iload_n 2, 1) := by decide +kernel
theorem dX0_splitBucket_30 : decode cX0_splitBucket 30 = .ok (.ishl, 1) := by decide +kernel
theorem dX0_splitBucket_31 : decode cX0_splitBucket 31 = .ok (.iadd, 1) := by decide +kernel
theorem dX0_splitBucket_32 : decode cX0_splitBucket 32 = .ok (.iload_n 2, 1) := by decide +kernel
theorem dX0_splitBucket_33 : decode cX0_splitBucket 33 = .ok (.invokevirtual 118, 3) := by decide +kernel
theorem dX0_splitBucket_36 : decode cX0_splitBucket 36 = .ok (.aload_n 0, 1) := by decide +kernel
theorem dX0_splitBucket_37 : decode cX0_splitBucket 37 = .ok (.dup, 1) := by decide +kernel
theorem dX0_splitBucket_38 : decode cX0_splitBucket 38 = .ok (.getfield 25, 3) := by decide +kernel
theorem dX0_splitBucket_41 : decode cX0_splitBucket 41 = .ok (.iconst 1, 1) := by decide +kernel
theorem dX0_splitBucket_42 : decode cX0_splitBucket 42 = .ok (.iadd, 1) := by decide +kernel
theorem dX0_splitBucket_43 : decode cX0_splitBucket 43 = .ok (.putfield 25, 3) := by decide +kernel
theorem dX0_splitBucket_46 : decode cX0_splitBucket 46 = .ok (.return_, 1) := by decide +kernel
theorem dX0_insert_0 : decode cX0_insert 0 = .ok (.aload_n 0, 1) := by decide +kernel
theorem dX0_insert_1 : decode cX0_insert 1 = .ok (.getfield 31, 3) := by decide +kernel
theorem dX0_insert_4 : decode cX0_insert 4 = .ok (.iload_n 1, 1) := by decide +kernel
theorem dX0_insert_5 : decode cX0_insert 5 = .ok (.invokevirtual 75, 3) := by decide +kernel
theorem dX0_insert_8 : decode cX0_insert 8 = .ok (.istore_n 2, 1) := by decide +kernel
theorem dX0_insert_9 : decode cX0_insert 9 = .ok (.aload_n 0, 1) := by decide +kernel
theorem dX0_insert_10 : decode cX0_insert 10 = .ok (.aload_n 0, 1) := by decide +kernel
theorem dX0_insert_11 : decode cX0_insert 11 = .ok (.iload_n 2, 1) := by decide +kernel
theorem dX0_insert_12 : decode cX0_insert 12 = .ok (.invokevirtual 66, 3) := by decide +kernel
theorem dX0_insert_15 : decode cX0_insert 15 = .ok (.invokevirtual 63, 3) := by decide +kernel
theorem dX0_insert_18 : decode cX0_insert 18 = .ok (.istore_n 3, 1) := by decide +kernel
theorem dX0_insert_19 : decode cX0_insert 19 = .ok (.iload_n 3, 1) := by decide +kernel
theorem dX0_insert_20 : decode cX0_insert 20 = .ok (.bipush 8, 2) := by decide +kernel
theorem dX0_insert_22 : decode cX0_insert 22 = .ok (.if_icmp .ge 41, 3) := by decide +kernel
theorem dX0_insert_25 : decode cX0_insert 25 = .ok (.aload_n 0, 1) := by decide +kernel
theorem dX0_insert_26 : decode cX0_insert 26 = .ok (.getfield 40, 3) := by decide +kernel
theorem dX0_insert_29 : decode cX0_insert 29 = .ok (.aload_n 0, 1) := by decide +kernel
theorem dX0_insert_30 : decode cX0_insert 30 = .ok (.iload_n 2, 1) := by decide +kernel
theorem dX0_insert_31 : decode cX0_insert 31 = .ok (.invokevirtual 69, 3) := by decide +kernel
theorem dX0_insert_34 : decode cX0_insert 34 = .ok (.invokevirtual 80, 3) := by decide +kernel
theorem dX0_insert_37 : decode cX0_insert 37 = .ok (.aload_n 0, 1) := by decide +kernel
theorem dX0_insert_38 : decode cX0_insert 38 = .ok (.getfield 31, 3) := by decide +kernel
theorem dX0_insert_41 : decode cX0_insert 41 = .ok (.getfield 83, 3) := by decide +kernel
theorem dX0_insert_44 : decode cX0_insert 44 = .ok (.if_icmp .lt 19, 3) := by decide +kernel
theorem dX0_insert_47 : decode cX0_insert 47 = .ok (.aload_n 0, 1) := by decide +kernel
theorem dX0_insert_48 : decode cX0_insert 48 = .ok (.aload_n 0, 1) := by decide +kernel
theorem dX0_insert_49 : decode cX0_insert 49 = .ok (.iload_n 2, 1) := by decide +kernel
theorem dX0_insert_50 : decode cX0_insert 50 = .ok (.invokevirtual 69, 3) := by decide +kernel
theorem dX0_insert_53 : decode cX0_insert 53 = .ok (.iload_n 3, 1) := by decide +kernel
theorem dX0_insert_54 : decode cX0_insert 54 = .ok (.invokevirtual 86, 3) := by decide +kernel
theorem dX0_insert_57 : decode cX0_insert 57 = .ok (.iinc 3 1, 3) := by decide +kernel
theorem dX0_insert_60 : decode cX0_insert 60 = .ok (.goto (-41), 3) := by decide +kernel
theorem dX0_insert_63 : decode cX0_insert 63 = .ok (.aload_n 0, 1) := by decide +kernel
theorem dX0_insert_64 : decode cX0_insert 64 = .ok (.getfield 40, 3) := by decide +kernel
theorem dX0_insert_67 : decode cX0_insert 67 = .ok (.aload_n 0, 1) := by decide +kernel
theorem dX0_insert_68 : decode cX0_insert 68 = .ok (.iload_n 2, 1) := by decide +kernel
theorem dX0_insert_69 : decode cX0_insert 69 = .ok (.invokevirtual 69, 3) := by decide +kernel
theorem dX0_insert_72 : decode cX0_insert 72 = .ok (.iload_n 1, 1) := by decide +kernel
theorem dX0_insert_73 : decode cX0_insert 73 = .ok (.invokevirtual 90, 3) := by decide +kernel
theorem dX0_insert_76 : decode cX0_insert 76 = .ok (.return_, 1) := by decide +kernel
theorem dX0_mergeBuckets_0 : decode cX0_mergeBuckets 0 = .ok (.aload_n 0, 1) := by decide +kernel
theorem dX0_mergeBuckets_1 : decode cX0_mergeBuckets 1 = .ok (.iload_n 1, 1) := by decide +kernel
theorem dX0_mergeBuckets_2 : decode cX0_mergeBuckets 2 = .ok (.iload_n 2, 1) := by decide +kernel
theorem dX0_mergeBuckets_3 : decode cX0_mergeBuckets 3 = .ok (.iload_n 2, 1) := by decide +kernel
theorem dX0_mergeBuckets_4 : decode cX0_mergeBuckets 4 = .ok (.invokevirtual 114, 3) := by decide +kernel
theorem dX0_mergeBuckets_7 : decode cX0_mergeBuckets 7 = .ok (.aload_n 0, 1) := by decide +kernel
theorem dX0_mergeBuckets_8 : decode cX0_mergeBuckets 8 = .ok (.getfield 40, 3) := by decide +kernel
theorem dX0_mergeBuckets_11 : decode cX0_mergeBuckets 11 = .ok (.iload_n 1, 1) := by decide +kernel
theorem dX0_mergeBuckets_12 : decode cX0_mergeBuckets 12 = .ok (.iconst 1, 1) := by decide +kernel
theorem dX0_mergeBuckets_13 : decode cX0_mergeBuckets 13 = .ok (.iload_n 2, 1) := by decide +kernel
theorem dX0_mergeBuckets_14 : decode cX0_mergeBuckets 14 = .ok (.ishl, 1) := by decide +kernel
theorem dX0_mergeBuckets_15 : decode cX0_mergeBuckets 15 = .ok (.iadd, 1) := by decide +kernel
theorem dX0_mergeBuckets_16 : decode cX0_mergeBuckets 16 = .ok (.iload_n 1, 1) := by decide +kernel
theorem dX0_mergeBuckets_17 : decode cX0_mergeBuckets 17 = .ok (.invokevirtual 125, 3) := by decide +kernel
theorem dX0_mergeBuckets_20 : decode cX0_mergeBuckets 20 = .ok (.aload_n 0, 1) := by decide +kernel
theorem dX0_mergeBuckets_21 : decode cX0_mergeBuckets 21 = .ok (.dup, 1) := by decide +kernel
theorem dX0_mergeBuckets_22 : decode cX0_mergeBuckets 22 = .ok (.getfield 28, 3) := by decide +kernel
theorem dX0_mergeBuckets_25 : decode cX0_mergeBuckets 25 = .ok (.iconst 1, 1) := by decide +kernel
theorem dX0_mergeBuckets_26 : decode cX0_mergeBuckets 26 = .ok (.iadd, 1) := by decide +kernel
theorem dX0_mergeBuckets_27 : decode cX0_mergeBuckets 27 = .ok (.putfield 28, 3) := by decide +kernel
theorem dX0_mergeBuckets_30 : decode cX0_mergeBuckets 30 = .ok (.return_, 1) := by decide +kernel
theorem dX0_delete_0 : decode cX0_delete 0 = .ok (.aload_n 0, 1) := by decide +kernel
theorem dX0_delete_1 : decode cX0_delete 1 = .ok (.getfield 31, 3) := by decide +kernel
theorem dX0_delete_4 : decode cX0_delete 4 = .ok (.iload_n 1, 1) := by decide +kernel
theorem dX0_delete_5 : decode cX0_delete 5 = .ok (.invokevirtual 75, 3) := by decide +kernel
theorem dX0_delete_8 : decode cX0_delete 8 = .ok (.istore_n 2, 1) := by decide +kernel
theorem dX0_delete_9 : decode cX0_delete 9 = .ok (.aload_n 0, 1) := by decide +kernel
theorem dX0_delete_10 : decode cX0_delete 10 = .ok (.getfield 40, 3) := by decide +kernel
theorem dX0_delete_13 : decode cX0_delete 13 = .ok (.aload_n 0, 1) := by decide +kernel
theorem dX0_delete_14 : decode cX0_delete 14 = .ok (.iload_n 2, 1) := by decide +kernel
theorem dX0_delete_15 : decode cX0_delete 15 = .ok (.invokevirtual 69, 3) := by decide +kernel
theorem dX0_delete_18 : decode cX0_delete 18 = .ok (.iload_n 1, 1) := by decide +kernel
theorem dX0_delete_19 : decode cX0_delete 19 = .ok (.invokevirtual 93, 3) := by decide +kernel
theorem dX0_delete_22 : decode cX0_delete 22 = .ok (.aload_n 0, 1) := by decide +kernel
theorem dX0_delete_23 : decode cX0_delete 23 = .ok (.aload_n 0, 1) := by decide +kernel
theorem dX0_delete_24 : decode cX0_delete 24 = .ok (.iload_n 2, 1) := by decide +kernel
theorem dX0_delete_25 : decode cX0_delete 25 = .ok (.invokevirtual 66, 3) := by decide +kernel
theorem dX0_delete_28 : decode cX0_delete 28 = .ok (.invokevirtual 63, 3) := by decide +kernel
theorem dX0_delete_31 : decode cX0_delete 31 = .ok (.istore_n 3, 1) := by decide +kernel
theorem dX0_delete_32 : decode cX0_delete 32 = .ok (.iload_n 3, 1) := by decide +kernel
theorem dX0_delete_33 : decode cX0_delete 33 = .ok (.ifCond .le 38, 3) := by decide +kernel
theorem dX0_delete_36 : decode cX0_delete 36 = .ok (.aload_n 0, 1) := by decide +kernel
theorem dX0_delete_37 : decode cX0_delete 37 = .ok (.aload_n 0, 1) := by decide +kernel
theorem dX0_delete_38 : decode cX0_delete 38 = .ok (.iload_n 2, 1) := by decide +kernel
theorem dX0_delete_39 : decode cX0_delete 39 = .ok (.invokevirtual 69, 3) := by decide +kernel
theorem dX0_delete_42 : decode cX0_delete 42 = .ok (.invokevirtual 96, 3) := by decide +kernel
theorem dX0_delete_45 : decode cX0_delete 45 = .ok (.ifCond .eq 26, 3) := by decide +kernel
theorem dX0_delete_48 : decode cX0_delete 48 = .ok (.aload_n 0, 1) := by decide +kernel
theorem dX0_delete_49 : decode cX0_delete 49 = .ok (.iload_n 2, 1) := by decide +kernel
theorem dX0_delete_50 : decode cX0_delete 50 = .ok (.invokestatic 56, 3) := by decide +kernel
theorem dX0_delete_53 : decode cX0_delete 53 = .ok (.iload_n 3, 1) := by decide +kernel
theorem dX0_delete_54 : decode cX0_delete 54 = .ok (.iconst 1, 1) := by decide +kernel
theorem dX0_delete_55 : decode cX0_delete 55 = .ok (.isub, 1) := by decide +kernel
theorem dX0_delete_56 : decode cX0_delete 56 = .ok (.invokestatic 59, 3) := by decide +kernel
theorem dX0_delete_59 : decode cX0_delete 59 = .ok (.iload_n 3, 1) := by decide +kernel
theorem dX0_delete_60 : decode cX0_delete 60 = .ok (.iconst 1, 1) := by decide +kernel
theorem dX0_delete_61 : decode cX0_delete 61 = .ok (.isub, 1) := by decide +kernel
theorem dX0_delete_62 : decode cX0_delete 62 = .ok (.invokevirtual 99, 3) := by decide +kernel
theorem dX0_delete_65 : decode cX0_delete 65 = .ok (.iinc 3 (-1), 3) := by decide +kernel
theorem dX0_delete_68 : decode cX0_delete 68 = .ok (.goto (-36), 3) := by decide +kernel
theorem dX0_delete_71 : decode cX0_delete 71 = .ok (.aload_n 0, 1) := by decide +kernel
theorem dX0_delete_72 : decode cX0_delete 72 = .ok (.invokevirtual 102, 3) := by decide +kernel
theorem dX0_delete_75 : decode cX0_delete 75 = .ok (.return_, 1) := by decide +kernel
theorem dX0_reset_0 : decode cX0_reset 0 = .ok (.aload_n 0, 1) := by decide +kernel
theorem dX0_reset_1 : decode cX0_reset 1 = .ok (.iconst 0, 1) := by decide +kernel
theorem dX0_reset_2 : decode cX0_reset 2 = .ok (.putfield 15, 3) := by decide +kernel
theorem dX0_reset_5 : decode cX0_reset 5 = .ok (.aload_n 0, 1) := by decide +kernel
theorem dX0_reset_6 : decode cX0_reset 6 = .ok (.iconst 0, 1) := by decide +kernel
theorem dX0_reset_7 : decode cX0_reset 7 = .ok (.iconst 0, 1) := by decide +kernel
theorem dX0_reset_8 : decode cX0_reset 8 = .ok (.invokevirtual 105, 3) := by decide +kernel
theorem dX0_reset_11 : decode cX0_reset 11 = .ok (.aload_n 0, 1) := by decide +kernel
theorem dX0_reset_12 : decode cX0_reset 12 = .ok (.getfield 40, 3) := by decide +kernel
theorem dX0_reset_15 : decode cX0_reset 15 = .ok (.invokevirtual 108, 3) := by decide +kernel
theorem dX0_reset_18 : decode cX0_reset 18 = .ok (.return_, 1) := by decide +kernel
theorem dX0_countBuckets_0 : decode cX0_countBuckets 0 = .ok (.aload_n 0, 1) := by decide +kernel
theorem dX0_countBuckets_1 : decode cX0_countBuckets 1 = .ok (.invokevirtual 44, 3) := by decide +kernel
theorem dX0_countBuckets_4 : decode cX0_countBuckets 4 = .ok (.istore_n 1, 1) := by decide +kernel
theorem dX0_countBuckets_5 : decode cX0_countBuckets 5 = .ok (.iconst 0, 1) := by decide +kernel
theorem dX0_countBuckets_6 : decode cX0_countBuckets 6 = .ok (.istore_n 2, 1) := by decide +kernel
theorem dX0_countBuckets_7 : decode cX0_countBuckets 7 = .ok (.iconst 0, 1) := by decide +kernel
theorem dX0_countBuckets_8 : decode cX0_countBuckets 8 = .ok (.istore_n 3, 1) := by decide +kernel
theorem dX0_countBuckets_9 : decode cX0_countBuckets 9 = .ok (.iload_n 3, 1) := by decide +kernel
theorem dX0_countBuckets_10 : decode cX0_countBuckets 10 = .ok (.iload_n 1, 1) := by decide +kernel
theorem dX0_countBuckets_11 : decode cX0_countBuckets 11 = .ok (.if_icmp .ge 21, 3) := by decide +kernel
theorem dX0_countBuckets_14 : decode cX0_countBuckets 14 = .ok (.aload_n 0, 1) := by decide +kernel
theorem dX0_countBuckets_15 : decode cX0_countBuckets 15 = .ok (.iload_n 3, 1) := by decide +kernel
theorem dX0_countBuckets_16 : decode cX0_countBuckets 16 = .ok (.invokevirtual 48, 3) := by decide +kernel
theorem dX0_countBuckets_19 : decode cX0_countBuckets 19 = .ok (.iload_n 3, 1) := by decide +kernel
theorem dX0_countBuckets_20 : decode cX0_countBuckets 20 = .ok (.if_icmp .ne 6, 3) := by decide +kernel
theorem dX0_countBuckets_23 : decode cX0_countBuckets 23 = .ok (.iinc 2 1, 3) := by decide +kernel
theorem dX0_countBuckets_26 : decode cX0_countBuckets 26 = .ok (.iinc 3 1, 3) := by decide +kernel
theorem dX0_countBuckets_29 : decode cX0_countBuckets 29 = .ok (.goto (-20), 3) := by decide +kernel
theorem dX0_countBuckets_32 : decode cX0_countBuckets 32 = .ok (.iload_n 2, 1) := by decide +kernel
theorem dX0_countBuckets_33 : decode cX0_countBuckets 33 = .ok (.ireturn, 1) := by decide +kernel
set_option maxHeartbeats 4000000 in
set_option maxRecDepth 100000 in
theorem c_X0_splitBucket (l : Launch) (D : va_G) (cy : ClassId) (a : Nat → Nat) (key : Nat → Nat) (val : Nat → Nat) (ord : Nat → Nat) (tk : Nat) (cp : Nat) (efi : Nat → Nat) (ela : Nat → Nat) (eco : Nat → Nat) (ene : Nat → Nat) (ldp : Nat → Nat) (dp : Nat) (dbl : Int32) (hlv : Int32) (spl : Int32) (mrg : Int32) (lfi : Nat → Nat) (lla : Nat → Nat) (lco : Nat → Nat) (lne : Nat → Nat) (lev : Nat) (ptr : Nat) (llo : Nat) (lhi : Nat) (lsp : Int32) (row : Nat) (lc : Nat) (rows : Nat → List Nat) (dep : Nat → Nat) (E : List Nat) (US : Nat → Prop) (hXR : XR key ldp dp efi ela eco ene rows dep E US) (hkey : ∀ e, 1 ≤ e → e ≤ 120 → key e < 65536) (xx : Nat) (hxx : xx < 256) (hrow : row = xx % 2 ^ dep xx) (hlc : lc = dep xx) (hlt : lc < 8) : tq_V (S := (Nat → Nat) × (Nat → Nat) × (Nat → Nat) × (Nat → Nat) × (Nat → Nat) × Nat × Int32) l yX0_splitBucket cX0_splitBucket 3 3 71 0 0 D cy (wC cy a key val ord tk cp efi ela eco ene ldp dp dbl hlv spl mrg lfi lla lco lne lev ptr llo lhi lsp) [.ref (a 2), .int (nI (row)), .int (nI (lc))] (fun u => (∃ rows2, XR key u.2.2.2.2.1 u.2.2.2.2.2.1 u.1 u.2.1 u.2.2.1 u.2.2.2.1 rows2 (deepen dep xx (dep xx) (dep xx + 1)) E US) ∧ u.2.2.2.2.2.1 = (if dep xx = dp then dp + 1 else dp) ∧ u.2.2.2.2.2.2 = if dep xx = dp then dbl + nI 1 else dbl) (fun u => (wC cy a key val ord tk cp u.1 u.2.1 u.2.2.1 u.2.2.2.1 u.2.2.2.2.1 u.2.2.2.2.2.1 u.2.2.2.2.2.2 hlv (spl + nI 1) mrg lfi lla lco lne lev ptr llo lhi lsp)) := by
  refine tq_V.mk (by decide) (Nat.le_of_ble_eq_true rfl) ?_
  intro p e s m args below meth c A C hin hP hK hD hS hA ls hl
  obtain ⟨hx, hb, hml, hown, hrt, hlk, hT⟩ := id C
  have hl : lv_has ls 3 [(0, .ref (a 2)), (1, .int (nI (row))), (2, .int (nI (lc)))] := hl
  have hdp9 := hXR.2.1.1
  have hpl := p7 hlt
  have hrl : row < 2 ^ lc := by rw [hrow, hlc]; exact Nat.mod_lt _ (Nat.two_pow_pos _)
  refine lv_iload_n hx hb dX0_splitBucket_0 rfl (lv_at hl 2 rfl) ?_
  refine lv_aload_n hx hb dX0_splitBucket_1 rfl (lv_at hl 0 rfl) ?_
  refine tq_get (C0 := RX0) (T := TX0) (N := 8) (ci := 0) (k := 3) C gX0 inX0 rfl (by decide) rfl fl_X0_15 hK hP 2 rfl rfl dX0_splitBucket_2 ?_
  refine tq_icmp_ne (tgt := 12) C (by omega) (by omega) dX0_splitBucket_5 (by decide) (fun h5 => ?_) (fun h5 => ?_)
  · have hX2 := hXR
    have hb2 : dep xx < dp := by have := hXR.2.1.2.1 xx hxx; omega
    refine lv_aload_n hx hb dX0_splitBucket_12 rfl (lv_at hl 0 rfl) ?_
    refine lv_iload_n hx hb dX0_splitBucket_13 rfl (lv_at hl 1 rfl) ?_
    refine lv_iload_n hx hb dX0_splitBucket_14 rfl (lv_at hl 2 rfl) ?_
    refine lv_iload_n hx hb dX0_splitBucket_15 rfl (lv_at hl 2 rfl) ?_
    refine lv_iconst (v := nI 1) hx hb dX0_splitBucket_16 (by decide) ?_
    refine tq_iadd C dX0_splitBucket_17 ?_
    refine tq_callV (W3 := fun u => (wC cy a key val ord tk cp efi ela eco ene u dp dbl hlv spl mrg lfi lla lco lne lev ptr llo lhi lsp)) (wr := []) (va_runV C.fix (As := [.int (nI (row)), .int (nI (lc)), .int (nI (lc + 1))]) (rest := []) ((c_X0_setDepths l D cy a key val ord tk cp efi ela eco ene ldp dp dbl hlv spl mrg lfi lla lco lne lev ptr llo lhi lsp row lc (lc + 1) hX2.2.1.1 (Nat.lt_of_lt_of_le hrl (p2_le (by omega))) (by omega)) s.heap.size) (tq_cV (n := 3) C ml_X0_114 im_X0_setDepths se_X0_setDepths ini_X0 cd_X0_setDepths ⟨by decide, by decide, by decide +kernel⟩ ⟨Nat.le_of_ble_eq_true rfl, Nat.le_of_ble_eq_true rfl⟩) ⟨tq_Pc.blind, va_recv hK hP (ci := 0) (q0 := 2) rfl rfl, tq_preC C hK hP hD⟩ rfl rfl hl.1 rfl (lv_room (Nat.le_of_ble_eq_true rfl)) dX0_splitBucket_18 ⟨Nat.le_of_ble_eq_true rfl, Nat.le_of_ble_eq_true rfl⟩) hP hD hS hA [0, 1, 2, 3, 4, 5, 6, 7, 8, 9, 10, 11, 12, 13, 14, 15, 16, 17] [] [0, 1, 2, 3, 4, 5, 6, 7, 8, 9, 10, 11, 12, 13, 14, 15, 16, 17] rfl rfl (by decide) (by decide) (by decide) (fun _ => rfl) (fun u18 H locs hr18 hP hD hS => ?_)
    obtain ⟨ldp18, rfl⟩ : ∃ z, z = u18 := ⟨_, rfl⟩
    try dsimp only at hr18
    have hP : va_P D vwCl (wC cy a key val ord tk cp efi ela eco ene ldp18 dp dbl hlv spl mrg lfi lla lco lne lev ptr llo lhi lsp) H := hP
    have hD : va_D A (wC cy a key val ord tk cp efi ela eco ene ldp18 dp dbl hlv spl mrg lfi lla lco lne lev ptr llo lhi lsp) := hD
    refine lv_aload_n hx hb dX0_splitBucket_21 rfl (lv_at hl 0 rfl) ?_
    refine tq_get (C0 := RX0) (T := TX0) (N := 8) (ci := 0) (k := 1) C gX0 inX0 rfl (by decide) rfl fl_X0_40 hK hP 2 rfl rfl dX0_splitBucket_22 ?_
    refine lv_iload_n hx hb dX0_splitBucket_25 rfl (lv_at hl 1 rfl) ?_
    refine lv_iload_n hx hb dX0_splitBucket_26 rfl (lv_at hl 1 rfl) ?_
    refine lv_iload_n hx hb dX0_splitBucket_27 rfl (lv_at hl 1 rfl) ?_
    refine lv_iconst (v := nI 1) hx hb dX0_splitBucket_28 (by decide) ?_
    refine lv_iload_n hx hb dX0_splitBucket_29 rfl (lv_at hl 2 rfl) ?_
    refine tq_ishl C (by omega) (by omega) dX0_splitBucket_30 ?_
    refine tq_top (y := nI (2 ^ lc)) (by rw [Nat.one_mul]) ?_
    refine tq_iadd C dX0_splitBucket_31 ?_
    refine lv_iload_n hx hb dX0_splitBucket_32 rfl (lv_at hl 2 rfl) ?_
    refine tq_callV (W3 := fun u => (wC cy a key val ord tk cp u.1 u.2.1 u.2.2.1 u.2.2.2 ldp18 dp dbl hlv spl mrg lfi lla lco lne lev ptr llo lhi lsp)) (wr := [0, 2, 3, 5, 6, 8, 9, 14, 15, 16, 17].filterMap (fun i => (wC cy a key val ord tk cp efi ela eco ene ldp18 dp dbl hlv spl mrg lfi lla lco lne lev ptr llo lhi lsp)[i]?)) (va_runV C.fix (As := [.int (nI (row)), .int (nI (row)), .int (nI (row + (2 ^ lc))), .int (nI (lc))]) (rest := []) ((c_X2_deal l D cy (a 7) (a 10) (a 11) (a 12) (a 13) (a 1) (a 4) (a 5) (a 6) efi ela eco ene key tk cp row row (row + (2 ^ lc)) lc rows hX2.1 hkey (by omega) (by omega) (by omega) (by omega)) H.size) (tq_cV (n := 4) C ml_X0_118 im_X2_deal se_X2_deal ini_X2 cd_X2_deal ⟨by decide, by decide, by decide +kernel⟩ ⟨Nat.le_of_ble_eq_true rfl, Nat.le_of_ble_eq_true rfl⟩) ⟨tq_Pc.blind, va_recv hK hP (ci := 2) (q0 := 7) rfl rfl, tq_preC C hK (hP.sub [7, 10, 11, 12, 13, 1, 4] rfl) (hD.sub [7, 10, 11, 12, 13, 1, 4] (by decide) rfl)⟩ rfl rfl hl.1 rfl (lv_room (Nat.le_of_ble_eq_true rfl)) dX0_splitBucket_33 ⟨Nat.le_of_ble_eq_true rfl, Nat.le_of_ble_eq_true rfl⟩) hP hD hS hA [7, 10, 11, 12, 13, 1, 4] [0, 2, 3, 5, 6, 8, 9, 14, 15, 16, 17] [0, 16, 1, 2, 17, 3, 4, 11, 5, 6, 12, 13, 14, 15, 7, 8, 9, 10] rfl rfl (by decide) (by decide) (by decide) (fun _ => rfl) (fun u33 H locs hr33 hP hD hS => ?_)
    obtain ⟨efi2, ela2, eco2, ene2⟩ := u33
    try dsimp only at hr33
    have hP : va_P D vwCl (wC cy a key val ord tk cp efi2 ela2 eco2 ene2 ldp18 dp dbl hlv spl mrg lfi lla lco lne lev ptr llo lhi lsp) H := hP
    have hD : va_D A (wC cy a key val ord tk cp efi2 ela2 eco2 ene2 ldp18 dp dbl hlv spl mrg lfi lla lco lne lev ptr llo lhi lsp) := hD
    refine lv_aload_n hx hb dX0_splitBucket_36 rfl (lv_at hl 0 rfl) ?_
    refine lv_dup hx hb dX0_splitBucket_37 rfl ?_
    refine tq_get (C0 := RX0) (T := TX0) (N := 8) (ci := 0) (k := 6) C gX0 inX0 rfl (by decide) rfl fl_X0_25 hK hP 2 rfl rfl dX0_splitBucket_38 ?_
    refine lv_iconst (v := nI 1) hx hb dX0_splitBucket_41 (by decide) ?_
    refine lv_iadd hx hb dX0_splitBucket_42 ?_
    refine tq_put (v := .int (spl + nI 1)) (C0 := RX0) (T := TX0) (N := 8) (ci := 0) (k := 6) (ty := .int) C gX0 inX0 tyX0_ok nmX0 rfl (by decide) rfl fl_X0_25 rfl (by decide +kernel) hK hP hD hS 2 rfl rfl rfl (Nat.le_of_ble_eq_true rfl) dX0_splitBucket_43 (fun H locs hP hD hS => ?_)
    have hP : va_P D vwCl (wC cy a key val ord tk cp efi2 ela2 eco2 ene2 ldp18 dp dbl hlv (spl + nI 1) mrg lfi lla lco lne lev ptr llo lhi lsp) H := hP
    have hD : va_D A (wC cy a key val ord tk cp efi2 ela2 eco2 ene2 ldp18 dp dbl hlv (spl + nI 1) mrg lfi lla lco lne lev ptr llo lhi lsp) := hD
    exact tq_vret C (efi2, ela2, eco2, ene2, ldp18, dp, dbl) hP hD hS (⟨⟨_, hX2.deep hxx hb2 (fun q => (hr18 q).trans (by rw [hrow, hlc])) hr33 (fun r _ => by rw [hrow, hlc])⟩, by rw [if_neg (by omega)], by rw [if_neg (by omega)]⟩) (Nat.le_of_ble_eq_true rfl) (Nat.le_of_ble_eq_true rfl) dX0_splitBucket_46
  · refine lv_aload_n hx hb dX0_splitBucket_8 rfl (lv_at hl 0 rfl) ?_
    refine tq_callV (W3 := fun u => (wC cy a key val ord tk cp efi ela eco ene u (dp + 1) (dbl + nI 1) hlv spl mrg lfi lla lco lne lev ptr llo lhi lsp)) (wr := []) (va_runV C.fix (As := []) (rest := []) ((c_X0_doubleDirectory l D cy a key val ord tk cp efi ela eco ene ldp dp dbl hlv spl mrg lfi lla lco lne lev ptr llo lhi lsp (by omega)) s.heap.size) (tq_cV (n := 0) C ml_X0_111 im_X0_doubleDirectory se_X0_doubleDirectory ini_X0 cd_X0_doubleDirectory ⟨by decide, by decide, by decide +kernel⟩ ⟨Nat.le_of_ble_eq_true rfl, Nat.le_of_ble_eq_true rfl⟩) ⟨tq_Pc.blind, va_recv hK hP (ci := 0) (q0 := 2) rfl rfl, tq_preC C hK hP hD⟩ rfl rfl hl.1 rfl (lv_room (Nat.le_of_ble_eq_true rfl)) dX0_splitBucket_9 ⟨Nat.le_of_ble_eq_true rfl, Nat.le_of_ble_eq_true rfl⟩) hP hD hS hA [0, 1, 2, 3, 4, 5, 6, 7, 8, 9, 10, 11, 12, 13, 14, 15, 16, 17] [] [0, 1, 2, 3, 4, 5, 6, 7, 8, 9, 10, 11, 12, 13, 14, 15, 16, 17] rfl rfl (by decide) (by decide) (by decide) (fun _ => rfl) (fun u9 H locs hr9 hP hD hS => ?_)
    obtain ⟨ldp9, rfl⟩ : ∃ z, z = u9 := ⟨_, rfl⟩
    try dsimp only at hr9
    have hP : va_P D vwCl (wC cy a key val ord tk cp efi ela eco ene ldp9 (dp + 1) (dbl + nI 1) hlv spl mrg lfi lla lco lne lev ptr llo lhi lsp) H := hP
    have hD : va_D A (wC cy a key val ord tk cp efi ela eco ene ldp9 (dp + 1) (dbl + nI 1) hlv spl mrg lfi lla lco lne lev ptr llo lhi lsp) := hD
    have hX2 := hXR.double (by omega) hr9
    have hb2 : dep xx < dp + 1 := by omega
    refine lv_aload_n hx hb dX0_splitBucket_12 rfl (lv_at hl 0 rfl) ?_
    refine lv_iload_n hx hb dX0_splitBucket_13 rfl (lv_at hl 1 rfl) ?_
    refine lv_iload_n hx hb dX0_splitBucket_14 rfl (lv_at hl 2 rfl) ?_
    refine lv_iload_n hx hb dX0_splitBucket_15 rfl (lv_at hl 2 rfl) ?_
    refine lv_iconst (v := nI 1) hx hb dX0_splitBucket_16 (by decide) ?_
    refine tq_iadd C dX0_splitBucket_17 ?_
    refine tq_callV (W3 := fun u => (wC cy a key val ord tk cp efi ela eco ene u (dp + 1) (dbl + nI 1) hlv spl mrg lfi lla lco lne lev ptr llo lhi lsp)) (wr := []) (va_runV C.fix (As := [.int (nI (row)), .int (nI (lc)), .int (nI (lc + 1))]) (rest := []) ((c_X0_setDepths l D cy a key val ord tk cp efi ela eco ene ldp9 (dp + 1) (dbl + nI 1) hlv spl mrg lfi lla lco lne lev ptr llo lhi lsp row lc (lc + 1) hX2.2.1.1 (Nat.lt_of_lt_of_le hrl (p2_le (by omega))) (by omega)) H.size) (tq_cV (n := 3) C ml_X0_114 im_X0_setDepths se_X0_setDepths ini_X0 cd_X0_setDepths ⟨by decide, by decide, by decide +kernel⟩ ⟨Nat.le_of_ble_eq_true rfl, Nat.le_of_ble_eq_true rfl⟩) ⟨tq_Pc.blind, va_recv hK hP (ci := 0) (q0 := 2) rfl rfl, tq_preC C hK hP hD⟩ rfl rfl hl.1 rfl (lv_room (Nat.le_of_ble_eq_true rfl)) dX0_splitBucket_18 ⟨Nat.le_of_ble_eq_true rfl, Nat.le_of_ble_eq_true rfl⟩) hP hD hS hA [0, 1, 2, 3, 4, 5, 6, 7, 8, 9, 10, 11, 12, 13, 14, 15, 16, 17] [] [0, 1, 2, 3, 4, 5, 6, 7, 8, 9, 10, 11, 12, 13, 14, 15, 16, 17] rfl rfl (by decide) (by decide) (by decide) (fun _ => rfl) (fun u18 H locs hr18 hP hD hS => ?_)
    obtain ⟨ldp18, rfl⟩ : ∃ z, z = u18 := ⟨_, rfl⟩
    try dsimp only at hr18
    have hP : va_P D vwCl (wC cy a key val ord tk cp efi ela eco ene ldp18 (dp + 1) (dbl + nI 1) hlv spl mrg lfi lla lco lne lev ptr llo lhi lsp) H := hP
    have hD : va_D A (wC cy a key val ord tk cp efi ela eco ene ldp18 (dp + 1) (dbl + nI 1) hlv spl mrg lfi lla lco lne lev ptr llo lhi lsp) := hD
    refine lv_aload_n hx hb dX0_splitBucket_21 rfl (lv_at hl 0 rfl) ?_
    refine tq_get (C0 := RX0) (T := TX0) (N := 8) (ci := 0) (k := 1) C gX0 inX0 rfl (by decide) rfl fl_X0_40 hK hP 2 rfl rfl dX0_splitBucket_22 ?_
    refine lv_iload_n hx hb dX0_splitBucket_25 rfl (lv_at hl 1 rfl) ?_
    refine lv_iload_n hx hb dX0_splitBucket_26 rfl (lv_at hl 1 rfl) ?_
    refine lv_iload_n hx hb dX0_splitBucket_27 rfl (lv_at hl 1 rfl) ?_
    refine lv_iconst (v := nI 1) hx hb dX0_splitBucket_28 (by decide) ?_
    refine lv_iload_n hx hb dX0_splitBucket_29 rfl (lv_at hl 2 rfl) ?_
    refine tq_ishl C (by omega) (by omega) dX0_splitBucket_30 ?_
    refine tq_top (y := nI (2 ^ lc)) (by rw [Nat.one_mul]) ?_
    refine tq_iadd C dX0_splitBucket_31 ?_
    refine lv_iload_n hx hb dX0_splitBucket_32 rfl (lv_at hl 2 rfl) ?_
    refine tq_callV (W3 := fun u => (wC cy a key val ord tk cp u.1 u.2.1 u.2.2.1 u.2.2.2 ldp18 (dp + 1) (dbl + nI 1) hlv spl mrg lfi lla lco lne lev ptr llo lhi lsp)) (wr := [0, 2, 3, 5, 6, 8, 9, 14, 15, 16, 17].filterMap (fun i => (wC cy a key val ord tk cp efi ela eco ene ldp18 (dp + 1) (dbl + nI 1) hlv spl mrg lfi lla lco lne lev ptr llo lhi lsp)[i]?)) (va_runV C.fix (As := [.int (nI (row)), .int (nI (row)), .int (nI (row + (2 ^ lc))), .int (nI (lc))]) (rest := []) ((c_X2_deal l D cy (a 7) (a 10) (a 11) (a 12) (a 13) (a 1) (a 4) (a 5) (a 6) efi ela eco ene key tk cp row row (row + (2 ^ lc)) lc rows hX2.1 hkey (by omega) (by omega) (by omega) (by omega)) H.size) (tq_cV (n := 4) C ml_X0_118 im_X2_deal se_X2_deal ini_X2 cd_X2_deal ⟨by decide, by decide, by decide +kernel⟩ ⟨Nat.le_of_ble_eq_true rfl, Nat.le_of_ble_eq_true rfl⟩) ⟨tq_Pc.blind, va_recv hK hP (ci := 2) (q0 := 7) rfl rfl, tq_preC C hK (hP.sub [7, 10, 11, 12, 13, 1, 4] rfl) (hD.sub [7, 10, 11, 12, 13, 1, 4] (by decide) rfl)⟩ rfl rfl hl.1 rfl (lv_room (Nat.le_of_ble_eq_true rfl)) dX0_splitBucket_33 ⟨Nat.le_of_ble_eq_true rfl, Nat.le_of_ble_eq_true rfl⟩) hP hD hS hA [7, 10, 11, 12, 13, 1, 4] [0, 2, 3, 5, 6, 8, 9, 14, 15, 16, 17] [0, 16, 1, 2, 17, 3, 4, 11, 5, 6, 12, 13, 14, 15, 7, 8, 9, 10] rfl rfl (by decide) (by decide) (by decide) (fun _ => rfl) (fun u33 H locs hr33 hP hD hS => ?_)
    obtain ⟨efi2, ela2, eco2, ene2⟩ := u33
    try dsimp only at hr33
    have hP : va_P D vwCl (wC cy a key val ord tk cp efi2 ela2 eco2 ene2 ldp18 (dp + 1) (dbl + nI 1) hlv spl mrg lfi lla lco lne lev ptr llo lhi lsp) H := hP
    have hD : va_D A (wC cy a key val ord tk cp efi2 ela2 eco2 ene2 ldp18 (dp + 1) (dbl + nI 1) hlv spl mrg lfi lla lco lne lev ptr llo lhi lsp) := hD
    refine lv_aload_n hx hb dX0_splitBucket_36 rfl (lv_at hl 0 rfl) ?_
    refine lv_dup hx hb dX0_splitBucket_37 rfl ?_
    refine tq_get (C0 := RX0) (T := TX0) (N := 8) (ci := 0) (k := 6) C gX0 inX0 rfl (by decide) rfl fl_X0_25 hK hP 2 rfl rfl dX0_splitBucket_38 ?_
    refine lv_iconst (v := nI 1) hx hb dX0_splitBucket_41 (by decide) ?_
    refine lv_iadd hx hb dX0_splitBucket_42 ?_
    refine tq_put (v := .int (spl + nI 1)) (C0 := RX0) (T := TX0) (N := 8) (ci := 0) (k := 6) (ty := .int) C gX0 inX0 tyX0_ok nmX0 rfl (by decide) rfl fl_X0_25 rfl (by decide +kernel) hK hP hD hS 2 rfl rfl rfl (Nat.le_of_ble_eq_true rfl) dX0_splitBucket_43 (fun H locs hP hD hS => ?_)
    have hP : va_P D vwCl (wC cy a key val ord tk cp efi2 ela2 eco2 ene2 ldp18 (dp + 1) (dbl + nI 1) hlv (spl + nI 1) mrg lfi lla lco lne lev ptr llo lhi lsp) H := hP
    have hD : va_D A (wC cy a key val ord tk cp efi2 ela2 eco2 ene2 ldp18 (dp + 1) (dbl + nI 1) hlv (spl + nI 1) mrg lfi lla lco lne lev ptr llo lhi lsp) := hD
    exact tq_vret C (efi2, ela2, eco2, ene2, ldp18, dp + 1, dbl + nI 1) hP hD hS (⟨⟨_, hX2.deep hxx hb2 (fun q => (hr18 q).trans (by rw [hrow, hlc])) hr33 (fun r _ => by rw [hrow, hlc])⟩, by rw [if_pos (by omega)], by rw [if_pos (by omega)]⟩) (Nat.le_of_ble_eq_true rfl) (Nat.le_of_ble_eq_true rfl) dX0_splitBucket_46
set_option maxHeartbeats 4000000 in
set_option maxRecDepth 100000 in
theorem c_X0_insert (l : Launch) (D : va_G) (cy : ClassId) (a : Nat → Nat) (key : Nat → Nat) (val : Nat → Nat) (ord : Nat → Nat) (tk : Nat) (cp : Nat) (efi : Nat → Nat) (ela : Nat → Nat) (eco : Nat → Nat) (ene : Nat → Nat) (ldp : Nat → Nat) (dp : Nat) (dbl : Int32) (hlv : Int32) (spl : Int32) (mrg : Int32) (lfi : Nat → Nat) (lla : Nat → Nat) (lco : Nat → Nat) (lne : Nat → Nat) (lev : Nat) (ptr : Nat) (llo : Nat) (lhi : Nat) (lsp : Int32) (en : Nat) (rows : Nat → List Nat) (dep : Nat → Nat) (E : List Nat) (US : Nat → Prop) (hXR : XR key ldp dp efi ela eco ene rows dep E US) (hkey : ∀ e, 1 ≤ e → e ≤ 120 → key e < 65536) (US2 : Nat → Prop) (h1 : 1 ≤ en) (h2 : en ≤ 120) (hnU : ¬ US en) (hU1 : ∀ e, US e → US2 e) (hU2 : US2 en) (hcp2 : cp ≤ 5) : tq_V (S := (Nat → Nat) × (Nat → Nat) × (Nat → Nat) × (Nat → Nat) × (Nat → Nat) × Nat × Int32 × Int32) l yX0_insert cX0_insert 4 4 93 0 0 D cy (wC cy a key val ord tk cp efi ela eco ene ldp dp dbl hlv spl mrg lfi lla lco lne lev ptr llo lhi lsp) [.ref (a 2), .int (nI (en))] (fun u => (∃ rows2, XR key u.2.2.2.2.1 u.2.2.2.2.2.1 u.1 u.2.1 u.2.2.1 u.2.2.2.1 rows2 (pS cp E (hs (key en) % 256) 9 (dep, dp, dbl, spl)).1 (E ++ [key en]) US2) ∧ (u.2.2.2.2.2.1, u.2.2.2.2.2.2.1, u.2.2.2.2.2.2.2) = (pS cp E (hs (key en) % 256) 9 (dep, dp, dbl, spl)).2) (fun u => (wC cy a key val ord tk cp u.1 u.2.1 u.2.2.1 u.2.2.2.1 u.2.2.2.2.1 u.2.2.2.2.2.1 u.2.2.2.2.2.2.1 hlv u.2.2.2.2.2.2.2 mrg lfi lla lco lne lev ptr llo lhi lsp)) := by
  refine tq_V.mk (by decide) (Nat.le_of_ble_eq_true rfl) ?_
  intro p e s m args below meth c A C hin hP hK hD hS hA ls hl
  obtain ⟨hx, hb, hml, hown, hrt, hlk, hT⟩ := id C
  have hl : lv_has ls 4 [(0, .ref (a 2)), (1, .int (nI (en)))] := hl
  have hkk := hkey en h1 h2
  refine lv_aload_n hx hb dX0_insert_0 rfl (lv_at hl 0 rfl) ?_
  refine tq_get (C0 := RX0) (T := TX0) (N := 8) (ci := 0) (k := 0) C gX0 inX0 rfl (by decide) rfl fl_X0_31 hK hP 2 rfl rfl dX0_insert_1 ?_
  refine lv_iload_n hx hb dX0_insert_4 rfl (lv_at hl 1 rfl) ?_
  refine tq_callF (va_runV C.fix (As := [.int (nI (en))]) (rest := []) (c_X3_keyOf l D cy (a 1) (a 4) (a 5) (a 6) key tk cp en h1 h2) (tq_cV (n := 1) C ml_X0_75 im_X3_keyOf se_X3_keyOf ini_X3 cd_X3_keyOf ⟨by decide, by decide, by decide +kernel⟩ ⟨Nat.le_of_ble_eq_true rfl, Nat.le_of_ble_eq_true rfl⟩) ⟨tq_Pf.blind, va_recv hK hP (ci := 3) (q0 := 1) rfl rfl, tq_preF C hK (hP.sub [1, 4] rfl)⟩ rfl rfl hl.1 rfl (lv_room (Nat.le_of_ble_eq_true rfl)) dX0_insert_5 ⟨Nat.le_of_ble_eq_true rfl, Nat.le_of_ble_eq_true rfl⟩) (fun r5 hr5 => ?_)
  obtain rfl := hr5
  refine lv_istore_n (lv' := [(2, .int (nI (key en))), (0, .ref (a 2)), (1, .int (nI (en)))]) hx hb dX0_insert_8 rfl hl (by decide) rfl (fun ls hl => ?_)
  refine lv_aload_n hx hb dX0_insert_9 rfl (lv_at hl 1 rfl) ?_
  refine lv_aload_n hx hb dX0_insert_10 rfl (lv_at hl 1 rfl) ?_
  refine lv_iload_n hx hb dX0_insert_11 rfl (lv_at hl 0 rfl) ?_
  refine tq_callF (va_runV C.fix (As := [.int (nI (key en))]) (rest := [.ref (a 2)]) (c_X0_slotFor l D cy a key val ord tk cp efi ela eco ene ldp dp dbl hlv spl mrg lfi lla lco lne lev ptr llo lhi lsp (key en) hXR.2.1.1 hkk) (tq_cV (n := 1) C ml_X0_66 im_X0_slotFor se_X0_slotFor ini_X0 cd_X0_slotFor ⟨by decide, by decide, by decide +kernel⟩ ⟨Nat.le_of_ble_eq_true rfl, Nat.le_of_ble_eq_true rfl⟩) ⟨tq_Pf.blind, va_recv hK hP (ci := 0) (q0 := 2) rfl rfl, tq_preF C hK hP⟩ rfl rfl hl.1 rfl (lv_room (Nat.le_of_ble_eq_true rfl)) dX0_insert_12 ⟨Nat.le_of_ble_eq_true rfl, Nat.le_of_ble_eq_true rfl⟩) (fun r12 hr12 => ?_)
  obtain rfl := hr12
  refine tq_callF (va_runV C.fix (As := [.int (nI (hs (key en) % 2 ^ dp))]) (rest := []) (c_X0_depthAt l D cy a key val ord tk cp efi ela eco ene ldp dp dbl hlv spl mrg lfi lla lco lne lev ptr llo lhi lsp (hs (key en) % 2 ^ dp) (m2 hXR.2.1.1)) (tq_cV (n := 1) C ml_X0_63 im_X0_depthAt se_X0_depthAt ini_X0 cd_X0_depthAt ⟨by decide, by decide, by decide +kernel⟩ ⟨Nat.le_of_ble_eq_true rfl, Nat.le_of_ble_eq_true rfl⟩) ⟨tq_Pf.blind, va_recv hK hP (ci := 0) (q0 := 2) rfl rfl, tq_preF C hK hP⟩ rfl rfl hl.1 rfl (lv_room (Nat.le_of_ble_eq_true rfl)) dX0_insert_15 ⟨Nat.le_of_ble_eq_true rfl, Nat.le_of_ble_eq_true rfl⟩) (fun r15 hr15 => ?_)
  obtain rfl := hr15
  refine tq_top (y := nI (dep (hs (key en) % 256))) (by rw [(hXR.at _).2]) ?_
  refine lv_istore_n (lv' := [(3, .int (nI (dep (hs (key en) % 256)))), (2, .int (nI (key en))), (0, .ref (a 2)), (1, .int (nI (en)))]) hx hb dX0_insert_18 rfl hl (by decide) rfl (fun ls hl => ?_)
  suffices hlp19 : ∀ (n19 : Nat) (k : Nat) (rows1 : Nat → List Nat) (dep1 : Nat → Nat) (efi1 : Nat → Nat) (ela1 : Nat → Nat) (eco1 : Nat → Nat) (ene1 : Nat → Nat) (ldp1 : Nat → Nat) (dp1 : Nat) (dbl1 : Int32) (spl1 : Int32), k < n19 → (9 ≤ k + dep1 (hs (key en) % 256)) → (XR key ldp1 dp1 efi1 ela1 eco1 ene1 rows1 dep1 E US) → (pS cp E (hs (key en) % 256) k (dep1, dp1, dbl1, spl1) = pS cp E (hs (key en) % 256) 9 (dep, dp, dbl, spl)) → ∀ (H : Heap) (locs : List Loc), va_P D vwCl (wC cy a key val ord tk cp efi1 ela1 eco1 ene1 ldp1 dp1 dbl1 hlv spl1 mrg lfi lla lco lne lev ptr llo lhi lsp) H → va_D A (wC cy a key val ord tk cp efi1 ela1 eco1 ene1 ldp1 dp1 dbl1 hlv spl1 mrg lfi lla lco lne lev ptr llo lhi lsp) → va_S A s.heap H locs → ∀ ls : Array Slot, lv_has ls 4 [(0, .ref (a 2)), (1, .int (nI (en))), (2, .int (nI (key en))), (3, .int (nI (dep1 (hs (key en) % 256))))] → W p l e ({ frames := 4, cells := 0, slots := 0, locals := 93 } : Room) s m args below meth c H locs 0 0 (MQ below (va_Qv (S := (Nat → Nat) × (Nat → Nat) × (Nat → Nat) × (Nat → Nat) × (Nat → Nat) × Nat × Int32 × Int32) (fun u => (∃ rows2, XR key u.2.2.2.2.1 u.2.2.2.2.2.1 u.1 u.2.1 u.2.2.1 u.2.2.2.1 rows2 (pS cp E (hs (key en) % 256) 9 (dep, dp, dbl, spl)).1 (E ++ [key en]) US2) ∧ (u.2.2.2.2.2.1, u.2.2.2.2.2.2.1, u.2.2.2.2.2.2.2) = (pS cp E (hs (key en) % 256) 9 (dep, dp, dbl, spl)).2) (tq_B D A (fun u => (wC cy a key val ord tk cp u.1 u.2.1 u.2.2.1 u.2.2.2.1 u.2.2.2.2.1 u.2.2.2.2.2.1 u.2.2.2.2.2.2.1 hlv u.2.2.2.2.2.2.2 mrg lfi lla lco lne lev ptr llo lhi lsp))) A) args s 0 0 A) (F0 m 19 ls []) from
    hlp19 10 9 rows dep efi ela eco ene ldp dp dbl spl (by omega) (Nat.le_add_right _ _) (hXR) (rfl) _ _ hP hD hS _ (lv_sub hl [2, 3, 1, 0] rfl)
  intro n19
  induction n19 with
  | zero => intro k rows1 dep1 efi1 ela1 eco1 ene1 ldp1 dp1 dbl1 spl1 hf; exact absurd hf (Nat.not_lt_zero _)
  | succ n19 ih19 =>
    intro k rows1 dep1 efi1 ela1 eco1 ene1 ldp1 dp1 dbl1 spl1 hf19 hk hX1 hres H locs hP hD hS ls hl
    have hrr : rowOf dep1 (key en) < 256 := by rw [← (hX1.at (key en)).1]; exact xrow_lt hX1.2.1.1
    have hd8 : dep1 (hs (key en) % 256) ≤ 8 := by have := hX1.2.1.2.1 _ (mod_lt256 (hs (key en))); have := hX1.2.1.1; omega
    have hcn : eco1 (rowOf dep1 (key en)) = cntB E (hs (key en) % 256) (dep1 (hs (key en) % 256)) := by rw [rowOf_x hd8]; exact hX1.cnt (mod_lt256 _)
    have hc9 := hX1.co_le hrr
    refine lv_iload_n hx hb dX0_insert_19 rfl (lv_at hl 3 rfl) ?_
    refine lv_bipush (v := nI 8) hx hb dX0_insert_20 (by decide) ?_
    refine tq_icmp_ge (tgt := 63) C (by omega) (by omega) dX0_insert_22 (by decide) (fun h22 => ?_) (fun h22 => ?_)
    · have hR9 := pS_end hres (Or.inl h22)
      refine lv_aload_n hx hb dX0_insert_63 rfl (lv_at hl 0 rfl) ?_
      refine tq_get (C0 := RX0) (T := TX0) (N := 8) (ci := 0) (k := 1) C gX0 inX0 rfl (by decide) rfl fl_X0_40 hK hP 2 rfl rfl dX0_insert_64 ?_
      refine lv_aload_n hx hb dX0_insert_67 rfl (lv_at hl 0 rfl) ?_
      refine lv_iload_n hx hb dX0_insert_68 rfl (lv_at hl 2 rfl) ?_
      refine tq_callF (va_runV C.fix (As := [.int (nI (key en))]) (rest := [.ref (a 7)]) (c_X0_rowFor l D cy a key val ord tk cp efi1 ela1 eco1 ene1 ldp1 dp1 dbl1 hlv spl1 mrg lfi lla lco lne lev ptr llo lhi lsp (key en) hX1.2.1.1 hX1.2.2.2.1 hkk) (tq_cV (n := 1) C ml_X0_69 im_X0_rowFor se_X0_rowFor ini_X0 cd_X0_rowFor ⟨by decide, by decide, by decide +kernel⟩ ⟨Nat.le_of_ble_eq_true rfl, Nat.le_of_ble_eq_true rfl⟩) ⟨tq_Pf.blind, va_recv hK hP (ci := 0) (q0 := 2) rfl rfl, tq_preF C hK hP⟩ rfl rfl hl.1 rfl (lv_room (Nat.le_of_ble_eq_true rfl)) dX0_insert_69 ⟨Nat.le_of_ble_eq_true rfl, Nat.le_of_ble_eq_true rfl⟩) (fun r69 hr69 => ?_)
      obtain rfl := hr69
      refine tq_top (y := nI (rowOf dep1 (key en))) (by rw [(hX1.at _).1]) ?_
      refine lv_iload_n hx hb dX0_insert_72 rfl (lv_at hl 1 rfl) ?_
      refine tq_callV (W3 := fun u => (wC cy a key val ord tk cp u.1 u.2.1 u.2.2.1 u.2.2.2 ldp1 dp1 dbl1 hlv spl1 mrg lfi lla lco lne lev ptr llo lhi lsp)) (wr := [0, 2, 3, 5, 6, 8, 9, 14, 15, 16, 17].filterMap (fun i => (wC cy a key val ord tk cp efi1 ela1 eco1 ene1 ldp1 dp1 dbl1 hlv spl1 mrg lfi lla lco lne lev ptr llo lhi lsp)[i]?)) (va_runV C.fix (As := [.int (nI (rowOf dep1 (key en))), .int (nI (en))]) (rest := []) ((c_X2_append l D cy (a 7) (a 10) (a 11) (a 12) (a 13) (a 1) (a 4) (a 5) (a 6) efi1 ela1 eco1 ene1 key tk cp (rowOf dep1 (key en)) en rows1 hX1.1 hrr h1 h2 (fun r hr hm => hnU (hX1.2.2.2.2.2 r hr en hm))) H.size) (tq_cV (n := 2) C ml_X0_90 im_X2_append se_X2_append ini_X2 cd_X2_append ⟨by decide, by decide, by decide +kernel⟩ ⟨Nat.le_of_ble_eq_true rfl, Nat.le_of_ble_eq_true rfl⟩) ⟨tq_Pc.blind, va_recv hK hP (ci := 2) (q0 := 7) rfl rfl, tq_preC C hK (hP.sub [7, 10, 11, 12, 13, 1, 4] rfl) (hD.sub [7, 10, 11, 12, 13, 1, 4] (by decide) rfl)⟩ rfl rfl hl.1 rfl (lv_room (Nat.le_of_ble_eq_true rfl)) dX0_insert_73 ⟨Nat.le_of_ble_eq_true rfl, Nat.le_of_ble_eq_true rfl⟩) hP hD hS hA [7, 10, 11, 12, 13, 1, 4] [0, 2, 3, 5, 6, 8, 9, 14, 15, 16, 17] [0, 16, 1, 2, 17, 3, 4, 11, 5, 6, 12, 13, 14, 15, 7, 8, 9, 10] rfl rfl (by decide) (by decide) (by decide) (fun _ => rfl) (fun u73 H locs hr73 hP hD hS => ?_)
      obtain ⟨efi3, ela3, eco3, ene3⟩ := u73
      try dsimp only at hr73
      have hP : va_P D vwCl (wC cy a key val ord tk cp efi3 ela3 eco3 ene3 ldp1 dp1 dbl1 hlv spl1 mrg lfi lla lco lne lev ptr llo lhi lsp) H := hP
      have hD : va_D A (wC cy a key val ord tk cp efi3 ela3 eco3 ene3 ldp1 dp1 dbl1 hlv spl1 mrg lfi lla lco lne lev ptr llo lhi lsp) := hD
      exact tq_vret C (efi3, ela3, eco3, ene3, ldp1, dp1, dbl1, spl1) hP hD hS (⟨⟨_, by rw [← hR9]; exact hX1.add hr73.1 hU1 hU2⟩, by rw [← hR9]⟩) (Nat.le_of_ble_eq_true rfl) (Nat.le_of_ble_eq_true rfl) dX0_insert_76
    · refine lv_aload_n hx hb dX0_insert_25 rfl (lv_at hl 0 rfl) ?_
      refine tq_get (C0 := RX0) (T := TX0) (N := 8) (ci := 0) (k := 1) C gX0 inX0 rfl (by decide) rfl fl_X0_40 hK hP 2 rfl rfl dX0_insert_26 ?_
      refine lv_aload_n hx hb dX0_insert_29 rfl (lv_at hl 0 rfl) ?_
      refine lv_iload_n hx hb dX0_insert_30 rfl (lv_at hl 2 rfl) ?_
      refine tq_callF (va_runV C.fix (As := [.int (nI (key en))]) (rest := [.ref (a 7)]) (c_X0_rowFor l D cy a key val ord tk cp efi1 ela1 eco1 ene1 ldp1 dp1 dbl1 hlv spl1 mrg lfi lla lco lne lev ptr llo lhi lsp (key en) hX1.2.1.1 hX1.2.2.2.1 hkk) (tq_cV (n := 1) C ml_X0_69 im_X0_rowFor se_X0_rowFor ini_X0 cd_X0_rowFor ⟨by decide, by decide, by decide +kernel⟩ ⟨Nat.le_of_ble_eq_true rfl, Nat.le_of_ble_eq_true rfl⟩) ⟨tq_Pf.blind, va_recv hK hP (ci := 0) (q0 := 2) rfl rfl, tq_preF C hK hP⟩ rfl rfl hl.1 rfl (lv_room (Nat.le_of_ble_eq_true rfl)) dX0_insert_31 ⟨Nat.le_of_ble_eq_true rfl, Nat.le_of_ble_eq_true rfl⟩) (fun r31 hr31 => ?_)
      obtain rfl := hr31
      refine tq_top (y := nI (rowOf dep1 (key en))) (by rw [(hX1.at _).1]) ?_
      refine tq_callF (va_runV C.fix (As := [.int (nI (rowOf dep1 (key en)))]) (rest := []) (c_X2_count l D cy (a 7) (a 10) (a 11) (a 12) (a 13) (a 1) (a 4) (a 5) (a 6) efi1 ela1 eco1 ene1 key tk cp (rowOf dep1 (key en)) hrr) (tq_cV (n := 1) C ml_X0_80 im_X2_count se_X2_count ini_X2 cd_X2_count ⟨by decide, by decide, by decide +kernel⟩ ⟨Nat.le_of_ble_eq_true rfl, Nat.le_of_ble_eq_true rfl⟩) ⟨tq_Pf.blind, va_recv hK hP (ci := 2) (q0 := 7) rfl rfl, tq_preF C hK (hP.sub [7, 10, 11, 12, 13, 1, 4] rfl)⟩ rfl rfl hl.1 rfl (lv_room (Nat.le_of_ble_eq_true rfl)) dX0_insert_34 ⟨Nat.le_of_ble_eq_true rfl, Nat.le_of_ble_eq_true rfl⟩) (fun r34 hr34 => ?_)
      obtain rfl := hr34
      refine lv_aload_n hx hb dX0_insert_37 rfl (lv_at hl 0 rfl) ?_
      refine tq_get (C0 := RX0) (T := TX0) (N := 8) (ci := 0) (k := 0) C gX0 inX0 rfl (by decide) rfl fl_X0_31 hK hP 2 rfl rfl dX0_insert_38 ?_
      refine tq_getN (C0 := RX3) (T := TX3) (N := 5) (ci := 3) (k := 4) C gX3 inX3 rfl (by decide) rfl fn_X0_83 hK hP 1 rfl rfl dX0_insert_41 ?_
      refine tq_icmp_lt (tgt := 63) C (by omega) (by omega) dX0_insert_44 (by decide) (fun h44 => ?_) (fun h44 => ?_)
      · have hR9 := pS_end hres (Or.inr (by rw [← hcn]; exact h44))
        refine lv_aload_n hx hb dX0_insert_63 rfl (lv_at hl 0 rfl) ?_
        refine tq_get (C0 := RX0) (T := TX0) (N := 8) (ci := 0) (k := 1) C gX0 inX0 rfl (by decide) rfl fl_X0_40 hK hP 2 rfl rfl dX0_insert_64 ?_
        refine lv_aload_n hx hb dX0_insert_67 rfl (lv_at hl 0 rfl) ?_
        refine lv_iload_n hx hb dX0_insert_68 rfl (lv_at hl 2 rfl) ?_
        refine tq_callF (va_runV C.fix (As := [.int (nI (key en))]) (rest := [.ref (a 7)]) (c_X0_rowFor l D cy a key val ord tk cp efi1 ela1 eco1 ene1 ldp1 dp1 dbl1 hlv spl1 mrg lfi lla lco lne lev ptr llo lhi lsp (key en) hX1.2.1.1 hX1.2.2.2.1 hkk) (tq_cV (n := 1) C ml_X0_69 im_X0_rowFor se_X0_rowFor ini_X0 cd_X0_rowFor ⟨by decide, by decide, by decide +kernel⟩ ⟨Nat.le_of_ble_eq_true rfl, Nat.le_of_ble_eq_true rfl⟩) ⟨tq_Pf.blind, va_recv hK hP (ci := 0) (q0 := 2) rfl rfl, tq_preF C hK hP⟩ rfl rfl hl.1 rfl (lv_room (Nat.le_of_ble_eq_true rfl)) dX0_insert_69 ⟨Nat.le_of_ble_eq_true rfl, Nat.le_of_ble_eq_true rfl⟩) (fun r69 hr69 => ?_)
        obtain rfl := hr69
        refine tq_top (y := nI (rowOf dep1 (key en))) (by rw [(hX1.at _).1]) ?_
        refine lv_iload_n hx hb dX0_insert_72 rfl (lv_at hl 1 rfl) ?_
        refine tq_callV (W3 := fun u => (wC cy a key val ord tk cp u.1 u.2.1 u.2.2.1 u.2.2.2 ldp1 dp1 dbl1 hlv spl1 mrg lfi lla lco lne lev ptr llo lhi lsp)) (wr := [0, 2, 3, 5, 6, 8, 9, 14, 15, 16, 17].filterMap (fun i => (wC cy a key val ord tk cp efi1 ela1 eco1 ene1 ldp1 dp1 dbl1 hlv spl1 mrg lfi lla lco lne lev ptr llo lhi lsp)[i]?)) (va_runV C.fix (As := [.int (nI (rowOf dep1 (key en))), .int (nI (en))]) (rest := []) ((c_X2_append l D cy (a 7) (a 10) (a 11) (a 12) (a 13) (a 1) (a 4) (a 5) (a 6) efi1 ela1 eco1 ene1 key tk cp (rowOf dep1 (key en)) en rows1 hX1.1 hrr h1 h2 (fun r hr hm => hnU (hX1.2.2.2.2.2 r hr en hm))) H.size) (tq_cV (n := 2) C ml_X0_90 im_X2_append se_X2_append ini_X2 cd_X2_append ⟨by decide, by decide, by decide +kernel⟩ ⟨Nat.le_of_ble_eq_true rfl, Nat.le_of_ble_eq_true rfl⟩) ⟨tq_Pc.blind, va_recv hK hP (ci := 2) (q0 := 7) rfl rfl, tq_preC C hK (hP.sub [7, 10, 11, 12, 13, 1, 4] rfl) (hD.sub [7, 10, 11, 12, 13, 1, 4] (by decide) rfl)⟩ rfl rfl hl.1 rfl (lv_room (Nat.le_of_ble_eq_true rfl)) dX0_insert_73 ⟨Nat.le_of_ble_eq_true rfl, Nat.le_of_ble_eq_true rfl⟩) hP hD hS hA [7, 10, 11, 12, 13, 1, 4] [0, 2, 3, 5, 6, 8, 9, 14, 15, 16, 17] [0, 16, 1, 2, 17, 3, 4, 11, 5, 6, 12, 13, 14, 15, 7, 8, 9, 10] rfl rfl (by decide) (by decide) (by decide) (fun _ => rfl) (fun u73 H locs hr73 hP hD hS => ?_)
        obtain ⟨efi3, ela3, eco3, ene3⟩ := u73
        try dsimp only at hr73
        have hP : va_P D vwCl (wC cy a key val ord tk cp efi3 ela3 eco3 ene3 ldp1 dp1 dbl1 hlv spl1 mrg lfi lla lco lne lev ptr llo lhi lsp) H := hP
        have hD : va_D A (wC cy a key val ord tk cp efi3 ela3 eco3 ene3 ldp1 dp1 dbl1 hlv spl1 mrg lfi lla lco lne lev ptr llo lhi lsp) := hD
        exact tq_vret C (efi3, ela3, eco3, ene3, ldp1, dp1, dbl1, spl1) hP hD hS (⟨⟨_, by rw [← hR9]; exact hX1.add hr73.1 hU1 hU2⟩, by rw [← hR9]⟩) (Nat.le_of_ble_eq_true rfl) (Nat.le_of_ble_eq_true rfl) dX0_insert_76
      · refine lv_aload_n hx hb dX0_insert_47 rfl (lv_at hl 0 rfl) ?_
        refine lv_aload_n hx hb dX0_insert_48 rfl (lv_at hl 0 rfl) ?_
        refine lv_iload_n hx hb dX0_insert_49 rfl (lv_at hl 2 rfl) ?_
        refine tq_callF (va_runV C.fix (As := [.int (nI (key en))]) (rest := [.ref (a 2)]) (c_X0_rowFor l D cy a key val ord tk cp efi1 ela1 eco1 ene1 ldp1 dp1 dbl1 hlv spl1 mrg lfi lla lco lne lev ptr llo lhi lsp (key en) hX1.2.1.1 hX1.2.2.2.1 hkk) (tq_cV (n := 1) C ml_X0_69 im_X0_rowFor se_X0_rowFor ini_X0 cd_X0_rowFor ⟨by decide, by decide, by decide +kernel⟩ ⟨Nat.le_of_ble_eq_true rfl, Nat.le_of_ble_eq_true rfl⟩) ⟨tq_Pf.blind, va_recv hK hP (ci := 0) (q0 := 2) rfl rfl, tq_preF C hK hP⟩ rfl rfl hl.1 rfl (lv_room (Nat.le_of_ble_eq_true rfl)) dX0_insert_50 ⟨Nat.le_of_ble_eq_true rfl, Nat.le_of_ble_eq_true rfl⟩) (fun r50 hr50 => ?_)
        obtain rfl := hr50
        refine tq_top (y := nI (rowOf dep1 (key en))) (by rw [(hX1.at _).1]) ?_
        refine lv_iload_n hx hb dX0_insert_53 rfl (lv_at hl 3 rfl) ?_
        refine tq_callV (W3 := fun u => (wC cy a key val ord tk cp u.1 u.2.1 u.2.2.1 u.2.2.2.1 u.2.2.2.2.1 u.2.2.2.2.2.1 u.2.2.2.2.2.2 hlv (spl1 + nI 1) mrg lfi lla lco lne lev ptr llo lhi lsp)) (wr := []) (va_runV C.fix (As := [.int (nI (rowOf dep1 (key en))), .int (nI (dep1 (hs (key en) % 256)))]) (rest := []) ((c_X0_splitBucket l D cy a key val ord tk cp efi1 ela1 eco1 ene1 ldp1 dp1 dbl1 hlv spl1 mrg lfi lla lco lne lev ptr llo lhi lsp (rowOf dep1 (key en)) (dep1 (hs (key en) % 256)) rows1 dep1 E US hX1 hkey (hs (key en) % 256) (mod_lt256 _) (rowOf_x hd8) rfl h22) H.size) (tq_cV (n := 2) C ml_X0_86 im_X0_splitBucket se_X0_splitBucket ini_X0 cd_X0_splitBucket ⟨by decide, by decide, by decide +kernel⟩ ⟨Nat.le_of_ble_eq_true rfl, Nat.le_of_ble_eq_true rfl⟩) ⟨tq_Pc.blind, va_recv hK hP (ci := 0) (q0 := 2) rfl rfl, tq_preC C hK hP hD⟩ rfl rfl hl.1 rfl (lv_room (Nat.le_of_ble_eq_true rfl)) dX0_insert_54 ⟨Nat.le_of_ble_eq_true rfl, Nat.le_of_ble_eq_true rfl⟩) hP hD hS hA [0, 1, 2, 3, 4, 5, 6, 7, 8, 9, 10, 11, 12, 13, 14, 15, 16, 17] [] [0, 1, 2, 3, 4, 5, 6, 7, 8, 9, 10, 11, 12, 13, 14, 15, 16, 17] rfl rfl (by decide) (by decide) (by decide) (fun _ => rfl) (fun u54 H locs hr54 hP hD hS => ?_)
        obtain ⟨efi2, ela2, eco2, ene2, ldp2, dp2, dbl2⟩ := u54
        try dsimp only at hr54
        have hP : va_P D vwCl (wC cy a key val ord tk cp efi2 ela2 eco2 ene2 ldp2 dp2 dbl2 hlv (spl1 + nI 1) mrg lfi lla lco lne lev ptr llo lhi lsp) H := hP
        have hD : va_D A (wC cy a key val ord tk cp efi2 ela2 eco2 ene2 ldp2 dp2 dbl2 hlv (spl1 + nI 1) mrg lfi lla lco lne lev ptr llo lhi lsp) := hD
        obtain ⟨⟨rows2, hX2⟩, hdp2, hdbl2⟩ := hr54
        refine lv_iinc (v := (nI ((dep1 (hs (key en) % 256)) + 1))) (lv' := [(3, .int (nI ((dep1 (hs (key en) % 256)) + 1))), (0, .ref (a 2)), (1, .int (nI (en))), (2, .int (nI (key en)))]) hx hb dX0_insert_57 hl (k := 3) rfl (tq_inc1 _) (by decide) rfl (fun ls hl => ?_)
        refine lv_goto (tgt := 19) hx hb dX0_insert_60 (by decide) ?_
        rw [show dep1 (hs (key en) % 256) + 1 = deepen dep1 (hs (key en) % 256) (dep1 (hs (key en) % 256)) (dep1 (hs (key en) % 256) + 1) (hs (key en) % 256) from (if_pos rfl).symm] at hl
        have hd9 : deepen dep1 (hs (key en) % 256) (dep1 (hs (key en) % 256)) (dep1 (hs (key en) % 256) + 1) (hs (key en) % 256) = dep1 (hs (key en) % 256) + 1 := if_pos rfl
        exact ih19 (k - 1) rows2 (deepen dep1 (hs (key en) % 256) (dep1 (hs (key en) % 256)) (dep1 (hs (key en) % 256) + 1)) efi2 ela2 eco2 ene2 ldp2 dp2 dbl2 (spl1 + nI 1) (by omega) (by omega) (hX2) (by rw [hdp2, hdbl2]; exact pS_go hres (by omega) h22 (by rw [← hcn]; exact h44)) _ _ hP hD hS _ (lv_sub hl [1, 2, 3, 0] rfl)
set_option maxHeartbeats 4000000 in
set_option maxRecDepth 100000 in
theorem c_X0_mergeBuckets (l : Launch) (D : va_G) (cy : ClassId) (a : Nat → Nat) (key : Nat → Nat) (val : Nat → Nat) (ord : Nat → Nat) (tk : Nat) (cp : Nat) (efi : Nat → Nat) (ela : Nat → Nat) (eco : Nat → Nat) (ene : Nat → Nat) (ldp : Nat → Nat) (dp : Nat) (dbl : Int32) (hlv : Int32) (spl : Int32) (mrg : Int32) (lfi : Nat → Nat) (lla : Nat → Nat) (lco : Nat → Nat) (lne : Nat → Nat) (lev : Nat) (ptr : Nat) (llo : Nat) (lhi : Nat) (lsp : Int32) (row : Nat) (lc : Nat) (rows : Nat → List Nat) (dep : Nat → Nat) (E : List Nat) (US : Nat → Prop) (hXR : XR key ldp dp efi ela eco ene rows dep E US) (hkey : ∀ e, 1 ≤ e → e ≤ 120 → key e < 65536) (xx : Nat) (hxx : xx < 256) (hlc : dep xx = lc + 1) (hbud : dep (xx ^^^ 2 ^ lc) = lc + 1) (hrow : row = xx % 2 ^ lc) : tq_V (S := (Nat → Nat) × (Nat → Nat) × (Nat → Nat) × (Nat → Nat) × (Nat → Nat)) l yX0_mergeBuckets cX0_mergeBuckets 3 4 93 0 0 D cy (wC cy a key val ord tk cp efi ela eco ene ldp dp dbl hlv spl mrg lfi lla lco lne lev ptr llo lhi lsp) [.ref (a 2), .int (nI (row)), .int (nI (lc))] (fun u => ∃ rows2, XR key u.2.2.2.2 dp u.1 u.2.1 u.2.2.1 u.2.2.2.1 rows2 (deepen dep xx lc lc) (mvB E (xx ||| 2 ^ lc) (lc + 1)) US) (fun u => (wC cy a key val ord tk cp u.1 u.2.1 u.2.2.1 u.2.2.2.1 u.2.2.2.2 dp dbl hlv spl (mrg + nI 1) lfi lla lco lne lev ptr llo lhi lsp)) := by
  refine tq_V.mk (by decide) (Nat.le_of_ble_eq_true rfl) ?_
  intro p e s m args below meth c A C hin hP hK hD hS hA ls hl
  obtain ⟨hx, hb, hml, hown, hrt, hlk, hT⟩ := id C
  have hl : lv_has ls 3 [(0, .ref (a 2)), (1, .int (nI (row))), (2, .int (nI (lc)))] := hl
  have hdp9 := hXR.2.1.1
  have hdd9 := hXR.2.1.2.1 xx hxx
  have hpl := p7 (dp := lc) (by omega)
  have hrl : row < 2 ^ lc := by rw [hrow]; exact Nat.mod_lt _ (Nat.two_pow_pos _)
  obtain ⟨y0, y1, a0, a1, b0, b1, c0, c1⟩ := two_of hxx (by omega) hlc hbud
  refine lv_aload_n hx hb dX0_mergeBuckets_0 rfl (lv_at hl 0 rfl) ?_
  refine lv_iload_n hx hb dX0_mergeBuckets_1 rfl (lv_at hl 1 rfl) ?_
  refine lv_iload_n hx hb dX0_mergeBuckets_2 rfl (lv_at hl 2 rfl) ?_
  refine lv_iload_n hx hb dX0_mergeBuckets_3 rfl (lv_at hl 2 rfl) ?_
  refine tq_callV (W3 := fun u => (wC cy a key val ord tk cp efi ela eco ene u dp dbl hlv spl mrg lfi lla lco lne lev ptr llo lhi lsp)) (wr := []) (va_runV C.fix (As := [.int (nI (row)), .int (nI (lc)), .int (nI (lc))]) (rest := []) ((c_X0_setDepths l D cy a key val ord tk cp efi ela eco ene ldp dp dbl hlv spl mrg lfi lla lco lne lev ptr llo lhi lsp row lc lc hdp9 (Nat.lt_of_lt_of_le hrl (p2_le (by omega))) (by omega)) s.heap.size) (tq_cV (n := 3) C ml_X0_114 im_X0_setDepths se_X0_setDepths ini_X0 cd_X0_setDepths ⟨by decide, by decide, by decide +kernel⟩ ⟨Nat.le_of_ble_eq_true rfl, Nat.le_of_ble_eq_true rfl⟩) ⟨tq_Pc.blind, va_recv hK hP (ci := 0) (q0 := 2) rfl rfl, tq_preC C hK hP hD⟩ rfl rfl hl.1 rfl (lv_room (Nat.le_of_ble_eq_true rfl)) dX0_mergeBuckets_4 ⟨Nat.le_of_ble_eq_true rfl, Nat.le_of_ble_eq_true rfl⟩) hP hD hS hA [0, 1, 2, 3, 4, 5, 6, 7, 8, 9, 10, 11, 12, 13, 14, 15, 16, 17] [] [0, 1, 2, 3, 4, 5, 6, 7, 8, 9, 10, 11, 12, 13, 14, 15, 16, 17] rfl rfl (by decide) (by decide) (by decide) (fun _ => rfl) (fun u4 H locs hr4 hP hD hS => ?_)
  obtain ⟨ldp4, rfl⟩ : ∃ z, z = u4 := ⟨_, rfl⟩
  try dsimp only at hr4
  have hP : va_P D vwCl (wC cy a key val ord tk cp efi ela eco ene ldp4 dp dbl hlv spl mrg lfi lla lco lne lev ptr llo lhi lsp) H := hP
  have hD : va_D A (wC cy a key val ord tk cp efi ela eco ene ldp4 dp dbl hlv spl mrg lfi lla lco lne lev ptr llo lhi lsp) := hD
  refine lv_aload_n hx hb dX0_mergeBuckets_7 rfl (lv_at hl 0 rfl) ?_
  refine tq_get (C0 := RX0) (T := TX0) (N := 8) (ci := 0) (k := 1) C gX0 inX0 rfl (by decide) rfl fl_X0_40 hK hP 2 rfl rfl dX0_mergeBuckets_8 ?_
  refine lv_iload_n hx hb dX0_mergeBuckets_11 rfl (lv_at hl 1 rfl) ?_
  refine lv_iconst (v := nI 1) hx hb dX0_mergeBuckets_12 (by decide) ?_
  refine lv_iload_n hx hb dX0_mergeBuckets_13 rfl (lv_at hl 2 rfl) ?_
  refine tq_ishl C (by omega) (by omega) dX0_mergeBuckets_14 ?_
  refine tq_top (y := nI (2 ^ lc)) (by rw [Nat.one_mul]) ?_
  refine tq_iadd C dX0_mergeBuckets_15 ?_
  refine lv_iload_n hx hb dX0_mergeBuckets_16 rfl (lv_at hl 1 rfl) ?_
  refine tq_callV (W3 := fun u => (wC cy a key val ord tk cp u.1 u.2.1 u.2.2.1 u.2.2.2 ldp4 dp dbl hlv spl mrg lfi lla lco lne lev ptr llo lhi lsp)) (wr := [0, 2, 3, 5, 6, 8, 9, 14, 15, 16, 17].filterMap (fun i => (wC cy a key val ord tk cp efi ela eco ene ldp4 dp dbl hlv spl mrg lfi lla lco lne lev ptr llo lhi lsp)[i]?)) (va_runV C.fix (As := [.int (nI (row + (2 ^ lc))), .int (nI (row))]) (rest := []) ((c_X2_pour l D cy (a 7) (a 10) (a 11) (a 12) (a 13) (a 1) (a 4) (a 5) (a 6) efi ela eco ene key tk cp (row + (2 ^ lc)) row rows hXR.1 hkey (by omega) (by omega)) H.size) (tq_cV (n := 2) C ml_X0_125 im_X2_pour se_X2_pour ini_X2 cd_X2_pour ⟨by decide, by decide, by decide +kernel⟩ ⟨Nat.le_of_ble_eq_true rfl, Nat.le_of_ble_eq_true rfl⟩) ⟨tq_Pc.blind, va_recv hK hP (ci := 2) (q0 := 7) rfl rfl, tq_preC C hK (hP.sub [7, 10, 11, 12, 13, 1, 4] rfl) (hD.sub [7, 10, 11, 12, 13, 1, 4] (by decide) rfl)⟩ rfl rfl hl.1 rfl (lv_room (Nat.le_of_ble_eq_true rfl)) dX0_mergeBuckets_17 ⟨Nat.le_of_ble_eq_true rfl, Nat.le_of_ble_eq_true rfl⟩) hP hD hS hA [7, 10, 11, 12, 13, 1, 4] [0, 2, 3, 5, 6, 8, 9, 14, 15, 16, 17] [0, 16, 1, 2, 17, 3, 4, 11, 5, 6, 12, 13, 14, 15, 7, 8, 9, 10] rfl rfl (by decide) (by decide) (by decide) (fun _ => rfl) (fun u17 H locs hr17 hP hD hS => ?_)
  obtain ⟨efi2, ela2, eco2, ene2⟩ := u17
  try dsimp only at hr17
  have hP : va_P D vwCl (wC cy a key val ord tk cp efi2 ela2 eco2 ene2 ldp4 dp dbl hlv spl mrg lfi lla lco lne lev ptr llo lhi lsp) H := hP
  have hD : va_D A (wC cy a key val ord tk cp efi2 ela2 eco2 ene2 ldp4 dp dbl hlv spl mrg lfi lla lco lne lev ptr llo lhi lsp) := hD
  refine lv_aload_n hx hb dX0_mergeBuckets_20 rfl (lv_at hl 0 rfl) ?_
  refine lv_dup hx hb dX0_mergeBuckets_21 rfl ?_
  refine tq_get (C0 := RX0) (T := TX0) (N := 8) (ci := 0) (k := 7) C gX0 inX0 rfl (by decide) rfl fl_X0_28 hK hP 2 rfl rfl dX0_mergeBuckets_22 ?_
  refine lv_iconst (v := nI 1) hx hb dX0_mergeBuckets_25 (by decide) ?_
  refine lv_iadd hx hb dX0_mergeBuckets_26 ?_
  refine tq_put (v := .int (mrg + nI 1)) (C0 := RX0) (T := TX0) (N := 8) (ci := 0) (k := 7) (ty := .int) C gX0 inX0 tyX0_ok nmX0 rfl (by decide) rfl fl_X0_28 rfl (by decide +kernel) hK hP hD hS 2 rfl rfl rfl (Nat.le_of_ble_eq_true rfl) dX0_mergeBuckets_27 (fun H locs hP hD hS => ?_)
  have hP : va_P D vwCl (wC cy a key val ord tk cp efi2 ela2 eco2 ene2 ldp4 dp dbl hlv spl (mrg + nI 1) lfi lla lco lne lev ptr llo lhi lsp) H := hP
  have hD : va_D A (wC cy a key val ord tk cp efi2 ela2 eco2 ene2 ldp4 dp dbl hlv spl (mrg + nI 1) lfi lla lco lne lev ptr llo lhi lsp) := hD
  exact tq_vret C (efi2, ela2, eco2, ene2, ldp4) hP hD hS (⟨_, hXR.merge a0 a1 b0 b1 c0 c1 (or_p2 _ _) (fun q => (hr4 q).trans (by rw [hrow])) hr17 (fun r _ => by rw [hrow])⟩) (Nat.le_of_ble_eq_true rfl) (Nat.le_of_ble_eq_true rfl) dX0_mergeBuckets_30
set_option maxHeartbeats 4000000 in
set_option maxRecDepth 100000 in
theorem c_X0_delete (l : Launch) (D : va_G) (cy : ClassId) (a : Nat → Nat) (key : Nat → Nat) (val : Nat → Nat) (ord : Nat → Nat) (tk : Nat) (cp : Nat) (efi : Nat → Nat) (ela : Nat → Nat) (eco : Nat → Nat) (ene : Nat → Nat) (ldp : Nat → Nat) (dp : Nat) (dbl : Int32) (hlv : Int32) (spl : Int32) (mrg : Int32) (lfi : Nat → Nat) (lla : Nat → Nat) (lco : Nat → Nat) (lne : Nat → Nat) (lev : Nat) (ptr : Nat) (llo : Nat) (lhi : Nat) (lsp : Int32) (en : Nat) (rows : Nat → List Nat) (dep : Nat → Nat) (E : List Nat) (US : Nat → Prop) (hXR : XR key ldp dp efi ela eco ene rows dep E US) (hkey : ∀ e, 1 ≤ e → e ≤ 120 → key e < 65536) (US2 : Nat → Prop) (h1 : 1 ≤ en) (h2 : en ≤ 120) (hUen : US en) (hinj : ∀ e f, US e → US f → key e = key f → e = f) (hU : ∀ e, US e → e ≠ en → US2 e) (hin9 : en ∈ rows (rowOf dep (key en))) (hcp2 : cp ≤ 5) : tq_V (S := (Nat → Nat) × (Nat → Nat) × (Nat → Nat) × (Nat → Nat) × (Nat → Nat) × Nat × Int32 × Int32) l yX0_delete cX0_delete 4 5 115 0 0 D cy (wC cy a key val ord tk cp efi ela eco ene ldp dp dbl hlv spl mrg lfi lla lco lne lev ptr llo lhi lsp) [.ref (a 2), .int (nI (en))] (fun u => (∃ rows2, XR key u.2.2.2.2.1 u.2.2.2.2.2.1 u.1 u.2.1 u.2.2.1 u.2.2.2.1 rows2 (mS cp (hs (key en) % 256) 9 (dep, E.filter (· != key en), mrg)).1 (mS cp (hs (key en) % 256) 9 (dep, E.filter (· != key en), mrg)).2.1 US2) ∧ u.2.2.2.2.2.1 = mx (mS cp (hs (key en) % 256) 9 (dep, E.filter (· != key en), mrg)).1 256 ∧ u.2.2.2.2.2.2.2 = (mS cp (hs (key en) % 256) 9 (dep, E.filter (· != key en), mrg)).2.2 ∧ u.2.2.2.2.2.2.1 = hlv + nI (dp - mx (mS cp (hs (key en) % 256) 9 (dep, E.filter (· != key en), mrg)).1 256)) (fun u => (wC cy a key val ord tk cp u.1 u.2.1 u.2.2.1 u.2.2.2.1 u.2.2.2.2.1 u.2.2.2.2.2.1 dbl u.2.2.2.2.2.2.1 spl u.2.2.2.2.2.2.2 lfi lla lco lne lev ptr llo lhi lsp)) := by
  refine tq_V.mk (by decide) (Nat.le_of_ble_eq_true rfl) ?_
  intro p e s m args below meth c A C hin hP hK hD hS hA ls hl
  obtain ⟨hx, hb, hml, hown, hrt, hlk, hT⟩ := id C
  have hl : lv_has ls 4 [(0, .ref (a 2)), (1, .int (nI (en)))] := hl
  have hkk := hkey en h1 h2
  have hrr0 : rowOf dep (key en) < 256 := by rw [← (hXR.at (key en)).1]; exact xrow_lt hXR.2.1.1
  obtain ⟨P, Q, hL, hPn, hQn, hff⟩ := hXR.1.split hrr0 hin9
  refine lv_aload_n hx hb dX0_delete_0 rfl (lv_at hl 0 rfl) ?_
  refine tq_get (C0 := RX0) (T := TX0) (N := 8) (ci := 0) (k := 0) C gX0 inX0 rfl (by decide) rfl fl_X0_31 hK hP 2 rfl rfl dX0_delete_1 ?_
  refine lv_iload_n hx hb dX0_delete_4 rfl (lv_at hl 1 rfl) ?_
  refine tq_callF (va_runV C.fix (As := [.int (nI (en))]) (rest := []) (c_X3_keyOf l D cy (a 1) (a 4) (a 5) (a 6) key tk cp en h1 h2) (tq_cV (n := 1) C ml_X0_75 im_X3_keyOf se_X3_keyOf ini_X3 cd_X3_keyOf ⟨by decide, by decide, by decide +kernel⟩ ⟨Nat.le_of_ble_eq_true rfl, Nat.le_of_ble_eq_true rfl⟩) ⟨tq_Pf.blind, va_recv hK hP (ci := 3) (q0 := 1) rfl rfl, tq_preF C hK (hP.sub [1, 4] rfl)⟩ rfl rfl hl.1 rfl (lv_room (Nat.le_of_ble_eq_true rfl)) dX0_delete_5 ⟨Nat.le_of_ble_eq_true rfl, Nat.le_of_ble_eq_true rfl⟩) (fun r5 hr5 => ?_)
  obtain rfl := hr5
  refine lv_istore_n (lv' := [(2, .int (nI (key en))), (0, .ref (a 2)), (1, .int (nI (en)))]) hx hb dX0_delete_8 rfl hl (by decide) rfl (fun ls hl => ?_)
  refine lv_aload_n hx hb dX0_delete_9 rfl (lv_at hl 1 rfl) ?_
  refine tq_get (C0 := RX0) (T := TX0) (N := 8) (ci := 0) (k := 1) C gX0 inX0 rfl (by decide) rfl fl_X0_40 hK hP 2 rfl rfl dX0_delete_10 ?_
  refine lv_aload_n hx hb dX0_delete_13 rfl (lv_at hl 1 rfl) ?_
  refine lv_iload_n hx hb dX0_delete_14 rfl (lv_at hl 0 rfl) ?_
  refine tq_callF (va_runV C.fix (As := [.int (nI (key en))]) (rest := [.ref (a 7)]) (c_X0_rowFor l D cy a key val ord tk cp efi ela eco ene ldp dp dbl hlv spl mrg lfi lla lco lne lev ptr llo lhi lsp (key en) hXR.2.1.1 hXR.2.2.2.1 hkk) (tq_cV (n := 1) C ml_X0_69 im_X0_rowFor se_X0_rowFor ini_X0 cd_X0_rowFor ⟨by decide, by decide, by decide +kernel⟩ ⟨Nat.le_of_ble_eq_true rfl, Nat.le_of_ble_eq_true rfl⟩) ⟨tq_Pf.blind, va_recv hK hP (ci := 0) (q0 := 2) rfl rfl, tq_preF C hK hP⟩ rfl rfl hl.1 rfl (lv_room (Nat.le_of_ble_eq_true rfl)) dX0_delete_15 ⟨Nat.le_of_ble_eq_true rfl, Nat.le_of_ble_eq_true rfl⟩) (fun r15 hr15 => ?_)
  obtain rfl := hr15
  refine tq_top (y := nI (rowOf dep (key en))) (by rw [(hXR.at _).1]) ?_
  refine lv_iload_n hx hb dX0_delete_18 rfl (lv_at hl 2 rfl) ?_
  refine tq_callV (W3 := fun u => (wC cy a key val ord tk cp u.1 u.2.1 u.2.2.1 u.2.2.2 ldp dp dbl hlv spl mrg lfi lla lco lne lev ptr llo lhi lsp)) (wr := [0, 2, 3, 5, 6, 8, 9, 14, 15, 16, 17].filterMap (fun i => (wC cy a key val ord tk cp efi ela eco ene ldp dp dbl hlv spl mrg lfi lla lco lne lev ptr llo lhi lsp)[i]?)) (va_runV C.fix (As := [.int (nI (rowOf dep (key en))), .int (nI (en))]) (rest := []) ((c_X2_unlink l D cy (a 7) (a 10) (a 11) (a 12) (a 13) (a 1) (a 4) (a 5) (a 6) efi ela eco ene key tk cp (rowOf dep (key en)) en rows hXR.1 hrr0 h1 h2 P Q hL hPn hQn) s.heap.size) (tq_cV (n := 2) C ml_X0_93 im_X2_unlink se_X2_unlink ini_X2 cd_X2_unlink ⟨by decide, by decide, by decide +kernel⟩ ⟨Nat.le_of_ble_eq_true rfl, Nat.le_of_ble_eq_true rfl⟩) ⟨tq_Pc.blind, va_recv hK hP (ci := 2) (q0 := 7) rfl rfl, tq_preC C hK (hP.sub [7, 10, 11, 12, 13, 1, 4] rfl) (hD.sub [7, 10, 11, 12, 13, 1, 4] (by decide) rfl)⟩ rfl rfl hl.1 rfl (lv_room (Nat.le_of_ble_eq_true rfl)) dX0_delete_19 ⟨Nat.le_of_ble_eq_true rfl, Nat.le_of_ble_eq_true rfl⟩) hP hD hS hA [7, 10, 11, 12, 13, 1, 4] [0, 2, 3, 5, 6, 8, 9, 14, 15, 16, 17] [0, 16, 1, 2, 17, 3, 4, 11, 5, 6, 12, 13, 14, 15, 7, 8, 9, 10] rfl rfl (by decide) (by decide) (by decide) (fun _ => rfl) (fun u19 H locs hr19 hP hD hS => ?_)
  obtain ⟨efi2, ela2, eco2, ene2⟩ := u19
  try dsimp only at hr19
  have hP : va_P D vwCl (wC cy a key val ord tk cp efi2 ela2 eco2 ene2 ldp dp dbl hlv spl mrg lfi lla lco lne lev ptr llo lhi lsp) H := hP
  have hD : va_D A (wC cy a key val ord tk cp efi2 ela2 eco2 ene2 ldp dp dbl hlv spl mrg lfi lla lco lne lev ptr llo lhi lsp) := hD
  have hXd := hXR.del hr19 hUen hinj hU
  refine lv_aload_n hx hb dX0_delete_22 rfl (lv_at hl 1 rfl) ?_
  refine lv_aload_n hx hb dX0_delete_23 rfl (lv_at hl 1 rfl) ?_
  refine lv_iload_n hx hb dX0_delete_24 rfl (lv_at hl 0 rfl) ?_
  refine tq_callF (va_runV C.fix (As := [.int (nI (key en))]) (rest := [.ref (a 2)]) (c_X0_slotFor l D cy a key val ord tk cp efi2 ela2 eco2 ene2 ldp dp dbl hlv spl mrg lfi lla lco lne lev ptr llo lhi lsp (key en) hXR.2.1.1 hkk) (tq_cV (n := 1) C ml_X0_66 im_X0_slotFor se_X0_slotFor ini_X0 cd_X0_slotFor ⟨by decide, by decide, by decide +kernel⟩ ⟨Nat.le_of_ble_eq_true rfl, Nat.le_of_ble_eq_true rfl⟩) ⟨tq_Pf.blind, va_recv hK hP (ci := 0) (q0 := 2) rfl rfl, tq_preF C hK hP⟩ rfl rfl hl.1 rfl (lv_room (Nat.le_of_ble_eq_true rfl)) dX0_delete_25 ⟨Nat.le_of_ble_eq_true rfl, Nat.le_of_ble_eq_true rfl⟩) (fun r25 hr25 => ?_)
  obtain rfl := hr25
  refine tq_callF (va_runV C.fix (As := [.int (nI (hs (key en) % 2 ^ dp))]) (rest := []) (c_X0_depthAt l D cy a key val ord tk cp efi2 ela2 eco2 ene2 ldp dp dbl hlv spl mrg lfi lla lco lne lev ptr llo lhi lsp (hs (key en) % 2 ^ dp) (m2 hXR.2.1.1)) (tq_cV (n := 1) C ml_X0_63 im_X0_depthAt se_X0_depthAt ini_X0 cd_X0_depthAt ⟨by decide, by decide, by decide +kernel⟩ ⟨Nat.le_of_ble_eq_true rfl, Nat.le_of_ble_eq_true rfl⟩) ⟨tq_Pf.blind, va_recv hK hP (ci := 0) (q0 := 2) rfl rfl, tq_preF C hK hP⟩ rfl rfl hl.1 rfl (lv_room (Nat.le_of_ble_eq_true rfl)) dX0_delete_28 ⟨Nat.le_of_ble_eq_true rfl, Nat.le_of_ble_eq_true rfl⟩) (fun r28 hr28 => ?_)
  obtain rfl := hr28
  refine tq_top (y := nI (dep (hs (key en) % 256))) (by rw [(hXR.at _).2]) ?_
  refine lv_istore_n (lv' := [(3, .int (nI (dep (hs (key en) % 256)))), (2, .int (nI (key en))), (0, .ref (a 2)), (1, .int (nI (en)))]) hx hb dX0_delete_31 rfl hl (by decide) rfl (fun ls hl => ?_)
  suffices hlp32 : ∀ (n32 : Nat) (k : Nat) (rows1 : Nat → List Nat) (dep1 : Nat → Nat) (E1 : List Nat) (efi1 : Nat → Nat) (ela1 : Nat → Nat) (eco1 : Nat → Nat) (ene1 : Nat → Nat) (ldp1 : Nat → Nat) (mrg1 : Int32), k < n32 → (dep1 (hs (key en) % 256) < k) → (XR key ldp1 dp efi1 ela1 eco1 ene1 rows1 dep1 E1 US2) → (mS cp (hs (key en) % 256) k (dep1, E1, mrg1) = mS cp (hs (key en) % 256) 9 (dep, E.filter (· != key en), mrg)) → ∀ (H : Heap) (locs : List Loc), va_P D vwCl (wC cy a key val ord tk cp efi1 ela1 eco1 ene1 ldp1 dp dbl hlv spl mrg1 lfi lla lco lne lev ptr llo lhi lsp) H → va_D A (wC cy a key val ord tk cp efi1 ela1 eco1 ene1 ldp1 dp dbl hlv spl mrg1 lfi lla lco lne lev ptr llo lhi lsp) → va_S A s.heap H locs → ∀ ls : Array Slot, lv_has ls 4 [(0, .ref (a 2)), (1, .int (nI (en))), (2, .int (nI (key en))), (3, .int (nI (dep1 (hs (key en) % 256))))] → W p l e ({ frames := 5, cells := 0, slots := 0, locals := 115 } : Room) s m args below meth c H locs (0 + 0) (0 + 0) (MQ below (va_Qv (S := (Nat → Nat) × (Nat → Nat) × (Nat → Nat) × (Nat → Nat) × (Nat → Nat) × Nat × Int32 × Int32) (fun u => (∃ rows2, XR key u.2.2.2.2.1 u.2.2.2.2.2.1 u.1 u.2.1 u.2.2.1 u.2.2.2.1 rows2 (mS cp (hs (key en) % 256) 9 (dep, E.filter (· != key en), mrg)).1 (mS cp (hs (key en) % 256) 9 (dep, E.filter (· != key en), mrg)).2.1 US2) ∧ u.2.2.2.2.2.1 = mx (mS cp (hs (key en) % 256) 9 (dep, E.filter (· != key en), mrg)).1 256 ∧ u.2.2.2.2.2.2.2 = (mS cp (hs (key en) % 256) 9 (dep, E.filter (· != key en), mrg)).2.2 ∧ u.2.2.2.2.2.2.1 = hlv + nI (dp - mx (mS cp (hs (key en) % 256) 9 (dep, E.filter (· != key en), mrg)).1 256)) (tq_B D A (fun u => (wC cy a key val ord tk cp u.1 u.2.1 u.2.2.1 u.2.2.2.1 u.2.2.2.2.1 u.2.2.2.2.2.1 dbl u.2.2.2.2.2.2.1 spl u.2.2.2.2.2.2.2 lfi lla lco lne lev ptr llo lhi lsp))) A) args s 0 0 A) (F0 m 32 ls []) from
    hlp32 10 9 (fun r => (rows r).filter (· != en)) dep (E.filter (· != key en)) efi2 ela2 eco2 ene2 ldp mrg (by omega) (by have := hXR.2.1.2.1 _ (mod_lt256 (hs (key en))); have := hXR.2.1.1; omega) (hXd) (rfl) _ _ hP hD hS _ (lv_sub hl [2, 3, 1, 0] rfl)
  intro n32
  induction n32 with
  | zero => intro k rows1 dep1 E1 efi1 ela1 eco1 ene1 ldp1 mrg1 hf; exact absurd hf (Nat.not_lt_zero _)
  | succ n32 ih32 =>
    intro k rows1 dep1 E1 efi1 ela1 eco1 ene1 ldp1 mrg1 hf32 hk hX1 hres H locs hP hD hS ls hl
    have hd8 : dep1 (hs (key en) % 256) ≤ 8 := by have := hX1.2.1.2.1 _ (mod_lt256 (hs (key en))); have := hX1.2.1.1; omega
    refine lv_iload_n hx hb dX0_delete_32 rfl (lv_at hl 3 rfl) ?_
    refine tq_if_le (tgt := 71) C (by omega) dX0_delete_33 (by decide) (fun h33 => ?_) (fun h33 => ?_)
    · have hR9 := mS_end hres (fun h => absurd (show 0 < dep1 (hs (key en) % 256) from (mcond_iff.mp h).1) (by omega))
      refine lv_aload_n hx hb dX0_delete_71 rfl (lv_at hl 0 rfl) ?_
      refine tq_callV (W3 := fun u => (wC cy a key val ord tk cp efi1 ela1 eco1 ene1 ldp1 u.1 dbl u.2 spl mrg1 lfi lla lco lne lev ptr llo lhi lsp)) (wr := []) (va_runV C.fix (As := []) (rest := []) ((c_X0_halveWhilePossible l D cy a key val ord tk cp efi1 ela1 eco1 ene1 ldp1 dp dbl hlv spl mrg1 lfi lla lco lne lev ptr llo lhi lsp hX1.2.1.1 hX1.2.2.2.1) H.size) (tq_cV (n := 0) C ml_X0_102 im_X0_halveWhilePossible se_X0_halveWhilePossible ini_X0 cd_X0_halveWhilePossible ⟨by decide, by decide, by decide +kernel⟩ ⟨Nat.le_of_ble_eq_true rfl, Nat.le_of_ble_eq_true rfl⟩) ⟨tq_Pc.blind, va_recv hK hP (ci := 0) (q0 := 2) rfl rfl, tq_preC C hK hP hD⟩ rfl rfl hl.1 rfl (lv_room (Nat.le_of_ble_eq_true rfl)) dX0_delete_72 ⟨Nat.le_of_ble_eq_true rfl, Nat.le_of_ble_eq_true rfl⟩) hP hD hS hA [0, 1, 2, 3, 4, 5, 6, 7, 8, 9, 10, 11, 12, 13, 14, 15, 16, 17] [] [0, 1, 2, 3, 4, 5, 6, 7, 8, 9, 10, 11, 12, 13, 14, 15, 16, 17] rfl rfl (by decide) (by decide) (by decide) (fun _ => rfl) (fun u72 H locs hr72 hP hD hS => ?_)
      obtain ⟨dp4, hlv4⟩ := u72
      try dsimp only at hr72
      have hP : va_P D vwCl (wC cy a key val ord tk cp efi1 ela1 eco1 ene1 ldp1 dp4 dbl hlv4 spl mrg1 lfi lla lco lne lev ptr llo lhi lsp) H := hP
      have hD : va_D A (wC cy a key val ord tk cp efi1 ela1 eco1 ene1 ldp1 dp4 dbl hlv4 spl mrg1 lfi lla lco lne lev ptr llo lhi lsp) := hD
      have hh := hX1.halve hr72.1 hr72.2.1 hr72.2.2.1
      exact tq_vret C (efi1, ela1, eco1, ene1, ldp1, dp4, hlv4, mrg1) hP hD hS (⟨⟨rows1, by rw [← hR9]; exact hh.2⟩, by rw [← hR9]; exact hh.1, by rw [← hR9], by rw [← hR9, ← hh.1]; exact hr72.2.2.2⟩) (Nat.le_of_ble_eq_true rfl) (Nat.le_of_ble_eq_true rfl) dX0_delete_75
    · refine lv_aload_n hx hb dX0_delete_36 rfl (lv_at hl 0 rfl) ?_
      refine lv_aload_n hx hb dX0_delete_37 rfl (lv_at hl 0 rfl) ?_
      refine lv_iload_n hx hb dX0_delete_38 rfl (lv_at hl 2 rfl) ?_
      refine tq_callF (va_runV C.fix (As := [.int (nI (key en))]) (rest := [.ref (a 2)]) (c_X0_rowFor l D cy a key val ord tk cp efi1 ela1 eco1 ene1 ldp1 dp dbl hlv spl mrg1 lfi lla lco lne lev ptr llo lhi lsp (key en) hX1.2.1.1 hX1.2.2.2.1 hkk) (tq_cV (n := 1) C ml_X0_69 im_X0_rowFor se_X0_rowFor ini_X0 cd_X0_rowFor ⟨by decide, by decide, by decide +kernel⟩ ⟨Nat.le_of_ble_eq_true rfl, Nat.le_of_ble_eq_true rfl⟩) ⟨tq_Pf.blind, va_recv hK hP (ci := 0) (q0 := 2) rfl rfl, tq_preF C hK hP⟩ rfl rfl hl.1 rfl (lv_room (Nat.le_of_ble_eq_true rfl)) dX0_delete_39 ⟨Nat.le_of_ble_eq_true rfl, Nat.le_of_ble_eq_true rfl⟩) (fun r39 hr39 => ?_)
      obtain rfl := hr39
      refine tq_top (y := nI ((hs (key en) % 256) % 2 ^ dep1 (hs (key en) % 256))) (by rw [(hX1.at _).1, rowOf_x hd8]) ?_
      refine tq_callF (va_runV C.fix (As := [.int (nI ((hs (key en) % 256) % 2 ^ dep1 (hs (key en) % 256)))]) (rest := []) (c_X0_canMerge l D cy a key val ord tk cp efi1 ela1 eco1 ene1 ldp1 dp dbl hlv spl mrg1 lfi lla lco lne lev ptr llo lhi lsp ((hs (key en) % 256) % 2 ^ dep1 (hs (key en) % 256)) hX1.2.2.2.1 (m2 hd8) (fun r hr => hX1.co_le hr) hcp2) (tq_cV (n := 1) C ml_X0_96 im_X0_canMerge se_X0_canMerge ini_X0 cd_X0_canMerge ⟨by decide, by decide, by decide +kernel⟩ ⟨Nat.le_of_ble_eq_true rfl, Nat.le_of_ble_eq_true rfl⟩) ⟨tq_Pf.blind, va_recv hK hP (ci := 0) (q0 := 2) rfl rfl, tq_preF C hK hP⟩ rfl rfl hl.1 rfl (lv_room (Nat.le_of_ble_eq_true rfl)) dX0_delete_42 ⟨Nat.le_of_ble_eq_true rfl, Nat.le_of_ble_eq_true rfl⟩) (fun r42 hr42 => ?_)
      rcases hr42 with ⟨hr42, rfl⟩ | ⟨hr42, rfl⟩
      · have hm := (hX1.canM (mrg := mrg1) (mod_lt256 _)).mp hr42
        have hm2 : 0 < dep1 (hs (key en) % 256) ∧ dep1 ((hs (key en) % 256) ^^^ 2 ^ (dep1 (hs (key en) % 256) - 1)) = dep1 (hs (key en) % 256) ∧ _ := mcond_iff.mp hm
        refine lv_if_eq (tgt := 71) hx hb dX0_delete_45 (by decide) (fun h9 => absurd h9 (by decide)) (fun _ => ?_)
        refine lv_aload_n hx hb dX0_delete_48 rfl (lv_at hl 0 rfl) ?_
        refine lv_iload_n hx hb dX0_delete_49 rfl (lv_at hl 2 rfl) ?_
        refine tq_callF (va_runSN C.fix (As := [.int (nI (key en))]) (rest := [.ref (a 2)]) (c_X4_hash l D cy (key en) hkk) (tq_cN (n := 1) C mn_X0_56 sm_X4_hash ini_X4 cd_X4_hash ⟨by decide, by decide, by decide +kernel⟩ ⟨Nat.le_of_ble_eq_true rfl, Nat.le_of_ble_eq_true rfl⟩) ⟨tq_Pf.blind, tq_preF C hK (hP.sub [] rfl)⟩ rfl rfl hl.1 rfl (lv_room (Nat.le_of_ble_eq_true rfl)) dX0_delete_50 ⟨Nat.le_of_ble_eq_true rfl, Nat.le_of_ble_eq_true rfl⟩) (fun r50 hr50 => ?_)
        obtain rfl := hr50
        refine lv_iload_n hx hb dX0_delete_53 rfl (lv_at hl 3 rfl) ?_
        refine lv_iconst (v := nI 1) hx hb dX0_delete_54 (by decide) ?_
        refine tq_isub C (by omega) dX0_delete_55 ?_
        refine tq_callF (va_runSN C.fix (As := [.int (nI (hs (key en))), .int (nI ((dep1 (hs (key en) % 256)) - 1))]) (rest := [.ref (a 2)]) (c_X4_lowBits l D cy (hs (key en)) ((dep1 (hs (key en) % 256)) - 1) (by have := hs_lt (key en); omega) (by omega)) (tq_cN (n := 2) C mn_X0_59 sm_X4_lowBits ini_X4 cd_X4_lowBits ⟨by decide, by decide, by decide +kernel⟩ ⟨Nat.le_of_ble_eq_true rfl, Nat.le_of_ble_eq_true rfl⟩) ⟨tq_Pf.blind, tq_preF C hK (hP.sub [] rfl)⟩ rfl rfl hl.1 rfl (lv_room (Nat.le_of_ble_eq_true rfl)) dX0_delete_56 ⟨Nat.le_of_ble_eq_true rfl, Nat.le_of_ble_eq_true rfl⟩) (fun r56 hr56 => ?_)
        obtain rfl := hr56
        refine lv_iload_n hx hb dX0_delete_59 rfl (lv_at hl 3 rfl) ?_
        refine lv_iconst (v := nI 1) hx hb dX0_delete_60 (by decide) ?_
        refine tq_isub C (by omega) dX0_delete_61 ?_
        refine tq_callV (W3 := fun u => (wC cy a key val ord tk cp u.1 u.2.1 u.2.2.1 u.2.2.2.1 u.2.2.2.2 dp dbl hlv spl (mrg1 + nI 1) lfi lla lco lne lev ptr llo lhi lsp)) (wr := []) (va_runV C.fix (As := [.int (nI ((hs (key en)) % 2 ^ ((dep1 (hs (key en) % 256)) - 1))), .int (nI ((dep1 (hs (key en) % 256)) - 1))]) (rest := []) ((c_X0_mergeBuckets l D cy a key val ord tk cp efi1 ela1 eco1 ene1 ldp1 dp dbl hlv spl mrg1 lfi lla lco lne lev ptr llo lhi lsp ((hs (key en)) % 2 ^ ((dep1 (hs (key en) % 256)) - 1)) ((dep1 (hs (key en) % 256)) - 1) rows1 dep1 E1 US2 hX1 hkey (hs (key en) % 256) (mod_lt256 _) (by omega) (by rw [hm2.2.1]; omega) ((m256 _ (by omega)).symm)) H.size) (tq_cV (n := 2) C ml_X0_99 im_X0_mergeBuckets se_X0_mergeBuckets ini_X0 cd_X0_mergeBuckets ⟨by decide, by decide, by decide +kernel⟩ ⟨Nat.le_of_ble_eq_true rfl, Nat.le_of_ble_eq_true rfl⟩) ⟨tq_Pc.blind, va_recv hK hP (ci := 0) (q0 := 2) rfl rfl, tq_preC C hK hP hD⟩ rfl rfl hl.1 rfl (lv_room (Nat.le_of_ble_eq_true rfl)) dX0_delete_62 ⟨Nat.le_of_ble_eq_true rfl, Nat.le_of_ble_eq_true rfl⟩) hP hD hS hA [0, 1, 2, 3, 4, 5, 6, 7, 8, 9, 10, 11, 12, 13, 14, 15, 16, 17] [] [0, 1, 2, 3, 4, 5, 6, 7, 8, 9, 10, 11, 12, 13, 14, 15, 16, 17] rfl rfl (by decide) (by decide) (by decide) (fun _ => rfl) (fun u62 H locs hr62 hP hD hS => ?_)
        obtain ⟨efi3, ela3, eco3, ene3, ldp3⟩ := u62
        try dsimp only at hr62
        have hP : va_P D vwCl (wC cy a key val ord tk cp efi3 ela3 eco3 ene3 ldp3 dp dbl hlv spl (mrg1 + nI 1) lfi lla lco lne lev ptr llo lhi lsp) H := hP
        have hD : va_D A (wC cy a key val ord tk cp efi3 ela3 eco3 ene3 ldp3 dp dbl hlv spl (mrg1 + nI 1) lfi lla lco lne lev ptr llo lhi lsp) := hD
        obtain ⟨rows3, hX3⟩ := hr62
        refine lv_iinc (v := (nI ((dep1 (hs (key en) % 256)) - 1))) (lv' := [(3, .int (nI ((dep1 (hs (key en) % 256)) - 1))), (0, .ref (a 2)), (1, .int (nI (en))), (2, .int (nI (key en)))]) hx hb dX0_delete_65 hl (k := 3) rfl (tq_dec (by omega)) (by decide) rfl (fun ls hl => ?_)
        refine lv_goto (tgt := 32) hx hb dX0_delete_68 (by decide) ?_
        rw [show dep1 (hs (key en) % 256) - 1 = deepen dep1 (hs (key en) % 256) (dep1 (hs (key en) % 256) - 1) (dep1 (hs (key en) % 256) - 1) (hs (key en) % 256) from (if_pos rfl).symm] at hl
        have hd9 : deepen dep1 (hs (key en) % 256) (dep1 (hs (key en) % 256) - 1) (dep1 (hs (key en) % 256) - 1) (hs (key en) % 256) = dep1 (hs (key en) % 256) - 1 := if_pos rfl
        rw [Nat.sub_add_cancel hm2.1] at hX3
        exact ih32 (k - 1) rows3 (deepen dep1 (hs (key en) % 256) (dep1 (hs (key en) % 256) - 1) (dep1 (hs (key en) % 256) - 1)) (mvB E1 ((hs (key en) % 256) ||| 2 ^ (dep1 (hs (key en) % 256) - 1)) (dep1 (hs (key en) % 256))) efi3 ela3 eco3 ene3 ldp3 (mrg1 + nI 1) (by omega) (by omega) (hX3) (mS_go hres (by omega) hm) _ _ hP hD hS _ (lv_sub hl [1, 2, 3, 0] rfl)
      · have hR9 := mS_end hres (fun h => hr42 ((hX1.canM (mod_lt256 _)).mpr h))
        refine lv_if_eq (tgt := 71) hx hb dX0_delete_45 (by decide) (fun _ => ?_) (fun h9 => absurd (by decide : nI 0 = 0) h9)
        refine lv_aload_n hx hb dX0_delete_71 rfl (lv_at hl 0 rfl) ?_
        refine tq_callV (W3 := fun u => (wC cy a key val ord tk cp efi1 ela1 eco1 ene1 ldp1 u.1 dbl u.2 spl mrg1 lfi lla lco lne lev ptr llo lhi lsp)) (wr := []) (va_runV C.fix (As := []) (rest := []) ((c_X0_halveWhilePossible l D cy a key val ord tk cp efi1 ela1 eco1 ene1 ldp1 dp dbl hlv spl mrg1 lfi lla lco lne lev ptr llo lhi lsp hX1.2.1.1 hX1.2.2.2.1) H.size) (tq_cV (n := 0) C ml_X0_102 im_X0_halveWhilePossible se_X0_halveWhilePossible ini_X0 cd_X0_halveWhilePossible ⟨by decide, by decide, by decide +kernel⟩ ⟨Nat.le_of_ble_eq_true rfl, Nat.le_of_ble_eq_true rfl⟩) ⟨tq_Pc.blind, va_recv hK hP (ci := 0) (q0 := 2) rfl rfl, tq_preC C hK hP hD⟩ rfl rfl hl.1 rfl (lv_room (Nat.le_of_ble_eq_true rfl)) dX0_delete_72 ⟨Nat.le_of_ble_eq_true rfl, Nat.le_of_ble_eq_true rfl⟩) hP hD hS hA [0, 1, 2, 3, 4, 5, 6, 7, 8, 9, 10, 11, 12, 13, 14, 15, 16, 17] [] [0, 1, 2, 3, 4, 5, 6, 7, 8, 9, 10, 11, 12, 13, 14, 15, 16, 17] rfl rfl (by decide) (by decide) (by decide) (fun _ => rfl) (fun u72 H locs hr72 hP hD hS => ?_)
        obtain ⟨dp4, hlv4⟩ := u72
        try dsimp only at hr72
        have hP : va_P D vwCl (wC cy a key val ord tk cp efi1 ela1 eco1 ene1 ldp1 dp4 dbl hlv4 spl mrg1 lfi lla lco lne lev ptr llo lhi lsp) H := hP
        have hD : va_D A (wC cy a key val ord tk cp efi1 ela1 eco1 ene1 ldp1 dp4 dbl hlv4 spl mrg1 lfi lla lco lne lev ptr llo lhi lsp) := hD
        have hh := hX1.halve hr72.1 hr72.2.1 hr72.2.2.1
        exact tq_vret C (efi1, ela1, eco1, ene1, ldp1, dp4, hlv4, mrg1) hP hD hS (⟨⟨rows1, by rw [← hR9]; exact hh.2⟩, by rw [← hR9]; exact hh.1, by rw [← hR9], by rw [← hR9, ← hh.1]; exact hr72.2.2.2⟩) (Nat.le_of_ble_eq_true rfl) (Nat.le_of_ble_eq_true rfl) dX0_delete_75
set_option maxHeartbeats 4000000 in
set_option maxRecDepth 100000 in
theorem c_X0_reset (l : Launch) (D : va_G) (cy : ClassId) (a : Nat → Nat) (key : Nat → Nat) (val : Nat → Nat) (ord : Nat → Nat) (tk : Nat) (cp : Nat) (efi : Nat → Nat) (ela : Nat → Nat) (eco : Nat → Nat) (ene : Nat → Nat) (ldp : Nat → Nat) (dp : Nat) (dbl : Int32) (hlv : Int32) (spl : Int32) (mrg : Int32) (lfi : Nat → Nat) (lla : Nat → Nat) (lco : Nat → Nat) (lne : Nat → Nat) (lev : Nat) (ptr : Nat) (llo : Nat) (lhi : Nat) (lsp : Int32)   : tq_V (S := (Nat → Nat) × (Nat → Nat) × (Nat → Nat)) l yX0_reset cX0_reset 1 3 62 0 0 D cy (wC cy a key val ord tk cp efi ela eco ene ldp dp dbl hlv spl mrg lfi lla lco lne lev ptr llo lhi lsp) [.ref (a 2)] (fun u => RR u.1 u.2.1 u.2.2 ene (fun _ => [])) (fun u => (wC cy a key val ord tk cp u.1 u.2.1 u.2.2 ene (va_up ldp 0 0) 0 dbl hlv spl mrg lfi lla lco lne lev ptr llo lhi lsp)) := by
  refine tq_V.mk (by decide) (Nat.le_of_ble_eq_true rfl) ?_
  intro p e s m args below meth c A C hin hP hK hD hS hA ls hl
  obtain ⟨hx, hb, hml, hown, hrt, hlk, hT⟩ := id C
  have hl : lv_has ls 1 [(0, .ref (a 2))] := hl
  refine lv_aload_n hx hb dX0_reset_0 rfl (lv_at hl 0 rfl) ?_
  refine lv_iconst (v := nI 0) hx hb dX0_reset_1 (by decide) ?_
  refine tq_put (v := .int (nI (0))) (C0 := RX0) (T := TX0) (N := 8) (ci := 0) (k := 3) (ty := .int) C gX0 inX0 tyX0_ok nmX0 rfl (by decide) rfl fl_X0_15 rfl (by decide +kernel) hK hP hD hS 2 rfl rfl rfl (Nat.le_of_ble_eq_true rfl) dX0_reset_2 (fun H locs hP hD hS => ?_)
  have hP : va_P D vwCl (wC cy a key val ord tk cp efi ela eco ene ldp 0 dbl hlv spl mrg lfi lla lco lne lev ptr llo lhi lsp) H := hP
  have hD : va_D A (wC cy a key val ord tk cp efi ela eco ene ldp 0 dbl hlv spl mrg lfi lla lco lne lev ptr llo lhi lsp) := hD
  refine lv_aload_n hx hb dX0_reset_5 rfl (lv_at hl 0 rfl) ?_
  refine lv_iconst (v := nI 0) hx hb dX0_reset_6 (by decide) ?_
  refine lv_iconst (v := nI 0) hx hb dX0_reset_7 (by decide) ?_
  refine tq_callV (W3 := fun u => (wC cy a key val ord tk cp efi ela eco ene (va_up ldp 0 0) 0 dbl hlv spl mrg lfi lla lco lne lev ptr llo lhi lsp)) (wr := []) (va_runV C.fix (As := [.int (nI (0)), .int (nI (0))]) (rest := []) ((c_X0_setDepth l D cy a key val ord tk cp efi ela eco ene ldp 0 dbl hlv spl mrg lfi lla lco lne lev ptr llo lhi lsp 0 0 (by omega)) H.size) (tq_cV (n := 2) C ml_X0_105 im_X0_setDepth se_X0_setDepth ini_X0 cd_X0_setDepth ⟨by decide, by decide, by decide +kernel⟩ ⟨Nat.le_of_ble_eq_true rfl, Nat.le_of_ble_eq_true rfl⟩) ⟨tq_Pc.blind, va_recv hK hP (ci := 0) (q0 := 2) rfl rfl, tq_preC C hK hP hD⟩ rfl rfl hl.1 rfl (lv_room (Nat.le_of_ble_eq_true rfl)) dX0_reset_8 ⟨Nat.le_of_ble_eq_true rfl, Nat.le_of_ble_eq_true rfl⟩) hP hD hS hA [0, 1, 2, 3, 4, 5, 6, 7, 8, 9, 10, 11, 12, 13, 14, 15, 16, 17] [] [0, 1, 2, 3, 4, 5, 6, 7, 8, 9, 10, 11, 12, 13, 14, 15, 16, 17] rfl rfl (by decide) (by decide) (by decide) (fun _ => rfl) (fun u8 H locs hr8 hP hD hS => ?_)
  have hP : va_P D vwCl (wC cy a key val ord tk cp efi ela eco ene (va_up ldp 0 0) 0 dbl hlv spl mrg lfi lla lco lne lev ptr llo lhi lsp) H := hP
  have hD : va_D A (wC cy a key val ord tk cp efi ela eco ene (va_up ldp 0 0) 0 dbl hlv spl mrg lfi lla lco lne lev ptr llo lhi lsp) := hD
  refine lv_aload_n hx hb dX0_reset_11 rfl (lv_at hl 0 rfl) ?_
  refine tq_get (C0 := RX0) (T := TX0) (N := 8) (ci := 0) (k := 1) C gX0 inX0 rfl (by decide) rfl fl_X0_40 hK hP 2 rfl rfl dX0_reset_12 ?_
  refine tq_callV (W3 := fun u => (wC cy a key val ord tk cp u.1 u.2.1 u.2.2 ene (va_up ldp 0 0) 0 dbl hlv spl mrg lfi lla lco lne lev ptr llo lhi lsp)) (wr := [0, 2, 3, 5, 6, 8, 9, 14, 15, 16, 17].filterMap (fun i => (wC cy a key val ord tk cp efi ela eco ene (va_up ldp 0 0) 0 dbl hlv spl mrg lfi lla lco lne lev ptr llo lhi lsp)[i]?)) (va_runV C.fix (As := []) (rest := []) ((c_X2_emptyAllRows l D cy (a 7) (a 10) (a 11) (a 12) (a 13) (a 1) (a 4) (a 5) (a 6) efi ela eco ene key tk cp) H.size) (tq_cV (n := 0) C ml_X0_108 im_X2_emptyAllRows se_X2_emptyAllRows ini_X2 cd_X2_emptyAllRows ⟨by decide, by decide, by decide +kernel⟩ ⟨Nat.le_of_ble_eq_true rfl, Nat.le_of_ble_eq_true rfl⟩) ⟨tq_Pc.blind, va_recv hK hP (ci := 2) (q0 := 7) rfl rfl, tq_preC C hK (hP.sub [7, 10, 11, 12, 13, 1, 4] rfl) (hD.sub [7, 10, 11, 12, 13, 1, 4] (by decide) rfl)⟩ rfl rfl hl.1 rfl (lv_room (Nat.le_of_ble_eq_true rfl)) dX0_reset_15 ⟨Nat.le_of_ble_eq_true rfl, Nat.le_of_ble_eq_true rfl⟩) hP hD hS hA [7, 10, 11, 12, 13, 1, 4] [0, 2, 3, 5, 6, 8, 9, 14, 15, 16, 17] [0, 16, 1, 2, 17, 3, 4, 11, 5, 6, 12, 13, 14, 15, 7, 8, 9, 10] rfl rfl (by decide) (by decide) (by decide) (fun _ => rfl) (fun u15 H locs hr15 hP hD hS => ?_)
  obtain ⟨efi2, ela2, eco2⟩ := u15
  try dsimp only at hr15
  have hP : va_P D vwCl (wC cy a key val ord tk cp efi2 ela2 eco2 ene (va_up ldp 0 0) 0 dbl hlv spl mrg lfi lla lco lne lev ptr llo lhi lsp) H := hP
  have hD : va_D A (wC cy a key val ord tk cp efi2 ela2 eco2 ene (va_up ldp 0 0) 0 dbl hlv spl mrg lfi lla lco lne lev ptr llo lhi lsp) := hD
  exact tq_vret C (efi2, ela2, eco2) hP hD hS (hr15) (Nat.le_of_ble_eq_true rfl) (Nat.le_of_ble_eq_true rfl) dX0_reset_18
set_option maxHeartbeats 4000000 in
set_option maxRecDepth 100000 in
theorem c_X0_countBuckets (l : Launch) (D : va_G) (cy : ClassId) (a : Nat → Nat) (key : Nat → Nat) (val : Nat → Nat) (ord : Nat → Nat) (tk : Nat) (cp : Nat) (efi : Nat → Nat) (ela : Nat → Nat) (eco : Nat → Nat) (ene : Nat → Nat) (ldp : Nat → Nat) (dp : Nat) (dbl : Int32) (hlv : Int32) (spl : Int32) (mrg : Int32) (lfi : Nat → Nat) (lla : Nat → Nat) (lco : Nat → Nat) (lne : Nat → Nat) (lev : Nat) (ptr : Nat) (llo : Nat) (lhi : Nat) (lsp : Int32)  (hdp : dp ≤ 8) (hld : ∀ q, q < 256 → ldp q ≤ 8) : tq_F l yX0_countBuckets cX0_countBuckets 4 (some .int) 3 62 D cy (wC cy a key val ord tk cp efi ela eco ene ldp dp dbl hlv spl mrg lfi lla lco lne lev ptr llo lhi lsp) [.ref (a 2)] (fun r => r = (nI (so (fun q => if q % 2 ^ ldp q = q then 1 else 0) (2 ^ dp)))) := by
  refine tq_F.mk (by decide) (Nat.le_of_ble_eq_true rfl) ?_
  intro p e s m args below meth c C hP hK ls hl
  obtain ⟨hx, hb, hml, hown, hrt, hlk, hT⟩ := id C
  have hl : lv_has ls 4 [(0, .ref (a 2))] := hl
  have hp8 := p8 hdp
  have hp9 := p2_pos dp
  refine lv_aload_n hx hb dX0_countBuckets_0 rfl (lv_at hl 0 rfl) ?_
  refine tq_callF (va_runV C.fix (As := []) (rest := []) (c_X0_countSlots l D cy a key val ord tk cp efi ela eco ene ldp dp dbl hlv spl mrg lfi lla lco lne lev ptr llo lhi lsp hdp) (tq_cV (n := 0) C ml_X0_44 im_X0_countSlots se_X0_countSlots ini_X0 cd_X0_countSlots ⟨by decide, by decide, by decide +kernel⟩ ⟨Nat.le_of_ble_eq_true rfl, Nat.le_of_ble_eq_true rfl⟩) ⟨tq_Pf.blind, va_recv hK hP (ci := 0) (q0 := 2) rfl rfl, tq_preF C hK hP⟩ rfl rfl hl.1 rfl (lv_room (Nat.le_of_ble_eq_true rfl)) dX0_countBuckets_1 ⟨Nat.le_of_ble_eq_true rfl, Nat.le_of_ble_eq_true rfl⟩) (fun r1 hr1 => ?_)
  obtain rfl := hr1
  refine lv_istore_n (lv' := [(1, .int (nI (2 ^ dp))), (0, .ref (a 2))]) hx hb dX0_countBuckets_4 rfl hl (by decide) rfl (fun ls hl => ?_)
  refine lv_iconst (v := nI 0) hx hb dX0_countBuckets_5 (by decide) ?_
  refine lv_istore_n (lv' := [(2, .int (nI (0))), (1, .int (nI (2 ^ dp))), (0, .ref (a 2))]) hx hb dX0_countBuckets_6 rfl hl (by decide) rfl (fun ls hl => ?_)
  refine lv_iconst (v := nI 0) hx hb dX0_countBuckets_7 (by decide) ?_
  refine lv_istore_n (lv' := [(3, .int (nI (0))), (2, .int (nI (0))), (1, .int (nI (2 ^ dp))), (0, .ref (a 2))]) hx hb dX0_countBuckets_8 rfl hl (by decide) rfl (fun ls hl => ?_)
  suffices hlp9 : ∀ (n9 : Nat) (i : Nat), 2 ^ dp - i < n9 → (i ≤ 2 ^ dp) → ∀ ls : Array Slot, lv_has ls 4 [(0, .ref (a 2)), (1, .int (nI (2 ^ dp))), (2, .int (nI (so (fun q => if q % 2 ^ ldp q = q then 1 else 0) i))), (3, .int (nI (i)))] → W p l e ({ frames := 3, cells := 0, slots := 0, locals := 62 } : Room) s m args below meth c s.heap [] 0 0 (MQ below (tq_Qf (fun r => r = (nI (so (fun q => if q % 2 ^ ldp q = q then 1 else 0) (2 ^ dp))))) args s 0 0 (fun _ => False)) (F0 m 9 ls []) from
    hlp9 (2 ^ dp + 1) 0 (by omega) (by omega) _ (lv_sub hl [3, 2, 1, 0] rfl)
  intro n9
  induction n9 with
  | zero => intro i hf; exact absurd hf (Nat.not_lt_zero _)
  | succ n9 ih9 =>
    intro i hf9 hi ls hl
    refine lv_iload_n hx hb dX0_countBuckets_9 rfl (lv_at hl 3 rfl) ?_
    refine lv_iload_n hx hb dX0_countBuckets_10 rfl (lv_at hl 1 rfl) ?_
    refine tq_icmp_ge (tgt := 32) C (by omega) (by omega) dX0_countBuckets_11 (by decide) (fun h11 => ?_) (fun h11 => ?_)
    · refine lv_iload_n hx hb dX0_countBuckets_32 rfl (lv_at hl 2 rfl) ?_
      exact tq_fret (v := (nI (so (fun q => if q % 2 ^ ldp q = q then 1 else 0) i))) C rfl (by rw [show i = 2 ^ dp from by omega]) dX0_countBuckets_33
    · refine lv_aload_n hx hb dX0_countBuckets_14 rfl (lv_at hl 0 rfl) ?_
      refine lv_iload_n hx hb dX0_countBuckets_15 rfl (lv_at hl 3 rfl) ?_
      refine tq_callF (va_runV C.fix (As := [.int (nI (i))]) (rest := []) (c_X0_rowAt l D cy a key val ord tk cp efi ela eco ene ldp dp dbl hlv spl mrg lfi lla lco lne lev ptr llo lhi lsp i hld (by omega)) (tq_cV (n := 1) C ml_X0_48 im_X0_rowAt se_X0_rowAt ini_X0 cd_X0_rowAt ⟨by decide, by decide, by decide +kernel⟩ ⟨Nat.le_of_ble_eq_true rfl, Nat.le_of_ble_eq_true rfl⟩) ⟨tq_Pf.blind, va_recv hK hP (ci := 0) (q0 := 2) rfl rfl, tq_preF C hK hP⟩ rfl rfl hl.1 rfl (lv_room (Nat.le_of_ble_eq_true rfl)) dX0_countBuckets_16 ⟨Nat.le_of_ble_eq_true rfl, Nat.le_of_ble_eq_true rfl⟩) (fun r16 hr16 => ?_)
      obtain rfl := hr16
      refine lv_iload_n hx hb dX0_countBuckets_19 rfl (lv_at hl 3 rfl) ?_
      refine tq_icmp_ne (tgt := 26) C (Nat.lt_of_le_of_lt (Nat.mod_le _ _) (by omega)) (by omega) dX0_countBuckets_20 (by decide) (fun h20 => ?_) (fun h20 => ?_)
      · refine lv_iinc (v := (nI (i + 1))) (lv' := [(3, .int (nI (i + 1))), (0, .ref (a 2)), (1, .int (nI (2 ^ dp))), (2, .int (nI (so (fun q => if q % 2 ^ ldp q = q then 1 else 0) i)))]) hx hb dX0_countBuckets_26 hl (k := 3) rfl (tq_inc1 _) (by decide) rfl (fun ls hl => ?_)
        refine lv_goto (tgt := 9) hx hb dX0_countBuckets_29 (by decide) ?_
        rw [show so (fun q => if q % 2 ^ ldp q = q then 1 else 0) i = so (fun q => if q % 2 ^ ldp q = q then 1 else 0) (i + 1) from by simp [so, h20]] at hl
        exact ih9 (i + 1) (by omega) (by omega) _ (lv_sub hl [1, 2, 3, 0] rfl)
      · refine lv_iinc (v := (nI ((so (fun q => if q % 2 ^ ldp q = q then 1 else 0) i) + 1))) (lv' := [(2, .int (nI ((so (fun q => if q % 2 ^ ldp q = q then 1 else 0) i) + 1))), (0, .ref (a 2)), (1, .int (nI (2 ^ dp))), (3, .int (nI (i)))]) hx hb dX0_countBuckets_23 hl (k := 2) rfl (tq_inc1 _) (by decide) rfl (fun ls hl => ?_)
        refine lv_iinc (v := (nI (i + 1))) (lv' := [(3, .int (nI (i + 1))), (2, .int (nI ((so (fun q => if q % 2 ^ ldp q = q then 1 else 0) i) + 1))), (0, .ref (a 2)), (1, .int (nI (2 ^ dp)))]) hx hb dX0_countBuckets_26 hl (k := 3) rfl (tq_inc1 _) (by decide) rfl (fun ls hl => ?_)
        refine lv_goto (tgt := 9) hx hb dX0_countBuckets_29 (by decide) ?_
        rw [show so (fun q => if q % 2 ^ ldp q = q then 1 else 0) i + 1 = so (fun q => if q % 2 ^ ldp q = q then 1 else 0) (i + 1) from by simp [so, h20]] at hl
        exact ih9 (i + 1) (by omega) (by omega) _ (lv_sub hl [2, 3, 1, 0] rfl)
end
section

/-! the linear table -/
def linOf (v p k : Nat) : Nat := if p ≤ hs k % 2 ^ v then hs k % 2 ^ v else hs k % 2 ^ (v + 1)
def YOK (v p : Nat) : Prop := p < 2 ^ v ∧ 2 ^ v + p ≤ 240
def YR (key : Nat → Nat) (v p : Nat) (lfi lla lco lne : Nat → Nat) (rows : Nat → List Nat) (L : List Nat) (US : Nat → Prop) : Prop :=
  RR lfi lla lco lne rows ∧ YOK v p ∧ (∀ r, r < 256 → (rows r).map key = L.filter (fun k => linOf v p k == r)) ∧ ∀ r, r < 256 → ∀ e ∈ rows r, US e
def lsplit (X : Nat × Nat) : Nat × Nat := if X.2 + 1 = 2 ^ X.1 then (X.1 + 1, 0) else (X.1, X.2 + 1)
def lback (X : Nat × Nat) : Nat × Nat := if X.2 = 0 then (X.1 - 1, 2 ^ (X.1 - 1) - 1) else (X.1, X.2 - 1)
theorem YOK.lev {v p : Nat} (h : YOK v p) : v ≤ 7 := by
  rcases Nat.lt_or_ge v 8 with q | q
  · omega
  · have := p2_le q
    have := h.2
    omega
theorem linOf_lt {v p : Nat} (h : p < 2 ^ v) (k : Nat) : linOf v p k < 2 ^ v + p := by
  unfold linOf
  have h1 : hs k % 2 ^ v < 2 ^ v := Nat.mod_lt _ (Nat.two_pow_pos _)
  split
  · omega
  · rcases bit_two (hs k) v with q | q <;> omega
theorem linOf_p {v p : Nat} (h : p < 2 ^ v) (k : Nat) : linOf v p k = p ↔ hs k % 2 ^ v = p := by
  unfold linOf
  have h1 : hs k % 2 ^ v < 2 ^ v := Nat.mod_lt _ (Nat.two_pow_pos _)
  split
  · exact Iff.rfl
  · constructor
    · rcases bit_two (hs k) v with q | q <;> omega
    · intro q; omega
theorem lsplit_many {v p : Nat} : 2 ^ (lsplit (v, p)).1 + (lsplit (v, p)).2 = 2 ^ v + p + 1 := by
  unfold lsplit
  dsimp only
  split
  · rename_i h
    show 2 ^ (v + 1) + 0 = _
    rw [Nat.pow_succ]; omega
  · rfl
theorem lsplit_ok {v p : Nat} (h : YOK v p) (h2 : 2 ^ v + p < 240) : YOK (lsplit (v, p)).1 (lsplit (v, p)).2 := by
  refine ⟨?_, by rw [lsplit_many]; omega⟩
  have := h.1
  unfold lsplit
  dsimp only
  split
  · exact Nat.two_pow_pos _
  · show p + 1 < 2 ^ v
    omega
/-- where the keys go when the bucket at the pointer is split -/
theorem linOf_split {v p : Nat} (h : p < 2 ^ v) (k : Nat) : linOf (lsplit (v, p)).1 (lsplit (v, p)).2 k = if linOf v p k = p then (if hs k / 2 ^ v % 2 ^ 1 = 0 then p else 2 ^ v + p) else linOf v p k := by
  have h1 : hs k % 2 ^ v < 2 ^ v := Nat.mod_lt _ (Nat.two_pow_pos _)
  have hb := hs_bit (hs k) v
  have hp := linOf_p h k
  by_cases z : hs k % 2 ^ v = p
  · rw [if_pos (hp.mpr z)]
    have hr : hs k % 2 ^ (v + 1) = if hs k / 2 ^ v % 2 ^ 1 = 0 then p else 2 ^ v + p := by
      rw [hb, z]
      split
      · rfl
      · exact Nat.add_comm _ _
    rw [← hr]
    unfold lsplit
    dsimp only
    split
    · unfold linOf
      rw [if_pos (Nat.zero_le _)]
    · unfold linOf
      dsimp only
      rw [if_neg (by omega)]
  · rw [if_neg (fun y => z (hp.mp y))]
    unfold lsplit
    dsimp only
    split
    · unfold linOf
      dsimp only
      rw [if_pos (Nat.zero_le _), if_neg (by omega)]
    · unfold linOf
      dsimp only
      by_cases y : p ≤ hs k % 2 ^ v
      · rw [if_pos y, if_pos (by omega)]
      · rw [if_neg y, if_neg (by omega)]
theorem lback_split {v p : Nat} (h : YOK v p) (h1 : 1 < 2 ^ v + p) : lsplit (lback (v, p)) = (v, p) ∧ (lback (v, p)).2 < 2 ^ (lback (v, p)).1 ∧ 2 ^ (lback (v, p)).1 + (lback (v, p)).2 + 1 = 2 ^ v + p := by
  have h2 := h.1
  unfold lback
  dsimp only
  by_cases z : p = 0
  · subst z
    have hv : 0 < v := by
      rcases Nat.eq_zero_or_pos v with q | q
      · subst q; simp at h1
      · exact q
    obtain ⟨w, rfl⟩ : ∃ w, v = w + 1 := ⟨v - 1, by omega⟩
    have hw := Nat.two_pow_pos w
    rw [if_pos rfl]
    rw [Nat.add_sub_cancel]
    refine ⟨?_, by show 2 ^ w - 1 < 2 ^ w; omega, by show 2 ^ w + (2 ^ w - 1) + 1 = _; rw [Nat.pow_succ]; omega⟩
    unfold lsplit
    dsimp only
    rw [if_pos (by omega)]
  · rw [if_neg z]
    refine ⟨?_, by show p - 1 < 2 ^ v; omega, by show 2 ^ v + (p - 1) + 1 = _; omega⟩
    unfold lsplit
    dsimp only
    rw [if_neg (by omega), Nat.sub_add_cancel (by omega)]
theorem lback_ok {v p : Nat} (h : YOK v p) (h1 : 1 < 2 ^ v + p) : YOK (lback (v, p)).1 (lback (v, p)).2 := by
  have := lback_split h h1
  exact ⟨this.2.1, by have := h.2; omega⟩
theorem linOf_back {v p : Nat} (h : YOK v p) (h1 : 1 < 2 ^ v + p) (k : Nat) : linOf (lback (v, p)).1 (lback (v, p)).2 k = if linOf v p k = 2 ^ (lback (v, p)).1 + (lback (v, p)).2 then (lback (v, p)).2 else linOf v p k := by
  obtain ⟨e, h2, h3⟩ := lback_split h h1
  have hs1 := linOf_split h2 k
  have hl := linOf_lt h2 k
  rw [e] at hs1
  dsimp only at hs1
  rw [hs1]
  by_cases z : linOf (lback (v, p)).1 (lback (v, p)).2 k = (lback (v, p)).2
  · rw [if_pos z]
    split
    · rw [if_neg, z]
      have := Nat.two_pow_pos (lback (v, p)).1
      omega
    · rw [if_pos rfl, z]
  · rw [if_neg z, if_neg (by omega)]
def lcond (cap hi n : Nat) (X : Nat × Nat × Int32) : Bool := decide (hi * (2 ^ X.1 + X.2.1) * cap < 100 * n)
def lstep (X : Nat × Nat × Int32) : Nat × Nat × Int32 := ((lsplit (X.1, X.2.1)).1, (lsplit (X.1, X.2.1)).2, X.2.2 + nI 1)
/-- splits, as long as the load is above the high one -/
def lS (cap hi n : Nat) : Nat → Nat × Nat × Int32 → Nat × Nat × Int32
  | 0, X => X
  | k + 1, X => if lcond cap hi n X = true then lS cap hi n k (lstep X) else X
theorem lS_go {cap hi n k : Nat} {X R : Nat × Nat × Int32} (h : lS cap hi n k X = R) (hk : 0 < k) (h1 : hi * (2 ^ X.1 + X.2.1) * cap < 100 * n) : lS cap hi n (k - 1) (lstep X) = R := by
  obtain ⟨j, rfl⟩ : ∃ j, k = j + 1 := ⟨k - 1, by omega⟩
  rw [← h]
  show lS cap hi n j (lstep X) = if lcond cap hi n X = true then lS cap hi n j (lstep X) else X
  rw [if_pos (by simp [lcond, h1])]
theorem lS_end {cap hi n k : Nat} {X R : Nat × Nat × Int32} (h : lS cap hi n k X = R) (h1 : 100 * n ≤ hi * (2 ^ X.1 + X.2.1) * cap) : X = R := by
  rw [← h]
  cases k with
  | zero => rfl
  | succ j =>
    show X = if lcond cap hi n X = true then lS cap hi n j (lstep X) else X
    rw [if_neg]
    simp only [lcond, decide_eq_true_eq]
    omega
def bcond (cap lo n : Nat) (X : List Nat × Nat × Nat × Int32) : Bool := decide (1 < 2 ^ X.2.1 + X.2.2.1) && decide (100 * n < lo * (2 ^ X.2.1 + X.2.2.1) * cap)
def mvL (L : List Nat) (v p r : Nat) : List Nat := L.filter (fun k => !(linOf v p k == r)) ++ L.filter (fun k => linOf v p k == r)
def bstep (X : List Nat × Nat × Nat × Int32) : List Nat × Nat × Nat × Int32 := (mvL X.1 X.2.1 X.2.2.1 (2 ^ X.2.1 + X.2.2.1 - 1), (lback (X.2.1, X.2.2.1)).1, (lback (X.2.1, X.2.2.1)).2, X.2.2.2 - nI 1)
/-- splits are taken back, as long as the load is below the low one -/
def lB (cap lo n : Nat) : Nat → List Nat × Nat × Nat × Int32 → List Nat × Nat × Nat × Int32
  | 0, X => X
  | k + 1, X => if bcond cap lo n X = true then lB cap lo n k (bstep X) else X
theorem lB_go {cap lo n k : Nat} {X R : List Nat × Nat × Nat × Int32} (h : lB cap lo n k X = R) (hk : 0 < k) (h0 : 1 < 2 ^ X.2.1 + X.2.2.1) (h1 : 100 * n < lo * (2 ^ X.2.1 + X.2.2.1) * cap) : lB cap lo n (k - 1) (bstep X) = R := by
  obtain ⟨j, rfl⟩ : ∃ j, k = j + 1 := ⟨k - 1, by omega⟩
  rw [← h]
  show lB cap lo n j (bstep X) = if bcond cap lo n X = true then lB cap lo n j (bstep X) else X
  rw [if_pos (by simp [bcond, h0, h1])]
theorem lB_end {cap lo n k : Nat} {X R : List Nat × Nat × Nat × Int32} (h : lB cap lo n k X = R) (h1 : 2 ^ X.2.1 + X.2.2.1 ≤ 1 ∨ lo * (2 ^ X.2.1 + X.2.2.1) * cap ≤ 100 * n) : X = R := by
  rw [← h]
  cases k with
  | zero => rfl
  | succ j =>
    show X = if bcond cap lo n X = true then lB cap lo n j (bstep X) else X
    rw [if_neg]
    simp only [bcond, Bool.and_eq_true, decide_eq_true_eq]
    omega
section YM
variable {key : Nat → Nat} {v p : Nat} {lfi lla lco lne : Nat → Nat} {rows : Nat → List Nat} {L : List Nat} {US : Nat → Prop}
theorem YR.split (h : YR key v p lfi lla lco lne rows L US) (h2 : 2 ^ v + p < 240) {f2 l2 c2 n2 : Nat → Nat} {rows2 : Nat → List Nat} (hR : RR f2 l2 c2 n2 rows2)
    (g2 : ∀ r, r < 256 → rows2 r = va_up rows p [] r ++ (rows p).filter (fun e => tg key p (2 ^ v + p) v e == r)) : YR key (lsplit (v, p)).1 (lsplit (v, p)).2 f2 l2 c2 n2 rows2 L US := by
  obtain ⟨-, hY, hf, hu⟩ := h
  have hp : p < 256 := by have := hY.1; have := hY.2; omega
  refine ⟨hR, lsplit_ok hY h2, fun r hr => ?_, fun r hr e he => ?_⟩
  · rw [g2 r hr, List.map_append]
    have e1 : (va_up rows p [] r).map key = if r = p then [] else L.filter (fun k => linOf v p k == r) := by
      by_cases z : r = p
      · rw [if_pos z, z, up_s]; rfl
      · rw [if_neg z, up_n _ _ z, hf r hr]
    have e2 : ((rows p).filter (fun e => tg key p (2 ^ v + p) v e == r)).map key = (L.filter (fun k => linOf v p k == p)).filter (fun k => (if hs k / 2 ^ v % 2 ^ 1 = 0 then p else 2 ^ v + p) == r) := by
      rw [← hf _ hp, List.filter_map]
      rfl
    rw [e1, e2]
    exact split_filter (r2 := 2 ^ v + p) (fun k => linOf_split hY.1 k) (fun k => by split <;> simp) (fun k => by have := linOf_lt hY.1 k; omega) r
  · rw [g2 r hr] at he
    rcases List.mem_append.mp he with he | he
    · by_cases z : r = p
      · rw [z, up_s] at he; exact absurd he List.not_mem_nil
      · rw [up_n _ _ z] at he; exact hu r hr e he
    · exact hu _ hp e (List.mem_filter.mp he).1
theorem YR.back (h : YR key v p lfi lla lco lne rows L US) (h2 : 1 < 2 ^ v + p) {v2 p2 : Nat} (hv2 : v2 = (lback (v, p)).1) (hp2 : p2 = (lback (v, p)).2) {f2 l2 c2 n2 : Nat → Nat} {rows2 : Nat → List Nat} (hR : RR f2 l2 c2 n2 rows2)
    (g2 : ∀ r, r < 256 → rows2 r = va_up rows (2 ^ v2 + p2) [] r ++ if p2 = r then rows (2 ^ v2 + p2) else []) : YR key v2 p2 f2 l2 c2 n2 rows2 (mvL L v p (2 ^ v + p - 1)) US := by
  obtain ⟨-, hY, hf, hu⟩ := h
  have hb := lback_split hY h2
  have hl := lback_ok hY h2
  rw [← hv2, ← hp2] at hb hl
  have hlt : 2 ^ v2 + p2 < 256 := by have := hl.2; omega
  have hlast : 2 ^ v + p - 1 = 2 ^ v2 + p2 := by omega
  refine ⟨hR, hl, fun r hr => ?_, fun r hr e he => ?_⟩
  · rw [g2 r hr, List.map_append]
    have w1 : (va_up rows (2 ^ v2 + p2) [] r).map key = if r = 2 ^ v2 + p2 then [] else L.filter (fun k => linOf v p k == r) := by
      by_cases z : r = 2 ^ v2 + p2
      · rw [if_pos z, z, up_s]; rfl
      · rw [if_neg z, up_n _ _ z, hf r hr]
    have w2 : (if p2 = r then rows (2 ^ v2 + p2) else []).map key = if p2 = r then L.filter (fun k => linOf v p k == 2 ^ v2 + p2) else [] := by
      split
      · exact hf _ hlt
      · rfl
    rw [w1, w2]
    unfold mvL
    rw [hlast]
    refine merge_filter (fun k => ?_) (by have := Nat.two_pow_pos v2; omega) r
    rw [hv2, hp2]
    exact linOf_back hY h2 k
  · rw [g2 r hr] at he
    rcases List.mem_append.mp he with he | he
    · by_cases z : r = 2 ^ v2 + p2
      · rw [z, up_s] at he; exact absurd he List.not_mem_nil
      · rw [up_n _ _ z] at he; exact hu r hr e he
    · by_cases z : p2 = r
      · rw [if_pos z] at he; exact hu _ hlt e he
      · rw [if_neg z] at he; exact absurd he List.not_mem_nil
theorem YR.add (h : YR key v p lfi lla lco lne rows L US) {f2 l2 c2 n2 : Nat → Nat} {en : Nat} {US2 : Nat → Prop} (hR : RR f2 l2 c2 n2 (va_up rows (linOf v p (key en)) (rows (linOf v p (key en)) ++ [en]))) (h1 : ∀ e, US e → US2 e) (h2 : US2 en) :
    YR key v p f2 l2 c2 n2 (va_up rows (linOf v p (key en)) (rows (linOf v p (key en)) ++ [en])) (L ++ [key en]) US2 := by
  obtain ⟨-, hY, hf, hu⟩ := h
  refine ⟨hR, hY, fun r hr => ?_, fun r hr e he => ?_⟩
  · rw [List.filter_append]
    by_cases z : r = linOf v p (key en)
    · rw [z, up_s, List.map_append, hf _ (z ▸ hr)]
      simp
    · rw [up_n _ _ z, hf r hr]
      have a : (linOf v p (key en) == r) = false := by simpa using fun y => z (Eq.symm y)
      simp [a]
  · by_cases z : r = linOf v p (key en)
    · rw [z, up_s] at he
      rcases List.mem_append.mp he with he | he
      · exact h1 e (hu _ (z ▸ hr) e he)
      · rw [List.mem_singleton.mp he]; exact h2
    · rw [up_n _ _ z] at he; exact h1 e (hu r hr e he)
theorem YR.del (h : YR key v p lfi lla lco lne rows L US) {f2 l2 c2 n2 : Nat → Nat} {en : Nat} {US2 : Nat → Prop} (hR : RR f2 l2 c2 n2 (fun r => (rows r).filter (· != en))) (hen : US en) (hinj : ∀ e f, US e → US f → key e = key f → e = f) (h1 : ∀ e, US e → e ≠ en → US2 e) :
    YR key v p f2 l2 c2 n2 (fun r => (rows r).filter (· != en)) (L.filter (· != key en)) US2 := by
  obtain ⟨-, hY, hf, hu⟩ := h
  refine ⟨hR, hY, fun r hr => ?_, fun r hr e he => ?_⟩
  · have e1 : (rows r).filter (· != en) = (rows r).filter ((fun k => k != key en) ∘ key) := List.filter_congr (fun e he => by
      show (e != en) = (key e != key en)
      by_cases z : e = en
      · simp [z]
      · have a : key e ≠ key en := fun y => z (hinj e en (hu r hr e he) hen y)
        rw [show (e != en) = true from by simpa using z, show (key e != key en) = true from by simpa using a])
    show ((rows r).filter (· != en)).map key = _
    rw [e1, ← List.filter_map, hf r hr, List.filter_filter, List.filter_filter]
    exact List.filter_congr (fun k _ => Bool.and_comm _ _)
  · obtain ⟨a, b⟩ := List.mem_filter.mp he
    exact h1 e (hu r hr e a) (by simpa using b)
end YM
theorem fa_le {hi m cap : Nat} (h1 : hi ≤ 200) (h2 : m ≤ 256) (h3 : cap ≤ 5) : hi * m * cap ≤ 256000 := Nat.mul_le_mul (Nat.mul_le_mul h1 h2) h3
theorem fa_ge {hi m cap : Nat} (h1 : 50 ≤ hi) (h3 : 1 ≤ cap) : 50 * m ≤ hi * m * cap := by
  have := Nat.mul_le_mul (Nat.mul_le_mul h1 (Nat.le_refl m)) h3
  omega
end
section
theorem dX1_countBuckets_0 : decode cX1_countBuckets 0 = .ok (.iconst 1, 1) := by decide +kernel
theorem dX1_countBuckets_1 : decode cX1_countBuckets 1 = .ok (.aload_n 0, 1) := by decide +kernel
theorem dX1_countBuckets_2 : decode cX1_countBuckets 2 = .ok (.getfield 9, 3) := by decide +kernel
theorem dX1_countBuckets_5 : decode cX1_countBuckets 5 = .ok (.ishl, 1) := by decide +kernel
theorem dX1_countBuckets_6 : decode cX1_countBuckets 6 = .ok (.aload_n 0, 1) := by decide +kernel
theorem dX1_countBuckets_7 : decode cX1_countBuckets 7 = .ok (.getfield 15, 3) := by decide +kernel
theorem dX1_countBuckets_10 : decode cX1_countBuckets 10 = .ok (.iadd, 1) := by decide +kernel
theorem dX1_countBuckets_11 : decode cX1_countBuckets 11 = .ok (.ireturn, 1) := by decide +kernel
theorem dX1_rowFor_0 : decode cX1_rowFor 0 = .ok (.iload_n 1, 1) := by decide +kernel
theorem dX1_rowFor_1 : decode cX1_rowFor 1 = .ok (.invokestatic 40, 3) := by decide +kernel
theorem dX1_rowFor_4 : decode cX1_rowFor 4 = .ok (.aload_n 0, 1) := by decide +kernel
theorem dX1_rowFor_5 : decode cX1_rowFor 5 = .ok (.getfield 9, 3) := by decide +kernel
theorem dX1_rowFor_8 : decode cX1_rowFor 8 = .ok (.invokestatic 44, 3) := by decide +kernel
theorem dX1_rowFor_11 : decode cX1_rowFor 11 = .ok (.istore_n 2, 1) := by decide +kernel
theorem dX1_rowFor_12 : decode cX1_rowFor 12 = .ok (.iload_n 2, 1) := by decide +kernel
theorem dX1_rowFor_13 : decode cX1_rowFor 13 = .ok (.aload_n 0, 1) := by decide +kernel
theorem dX1_rowFor_14 : decode cX1_rowFor 14 = .ok (.getfield 15, 3) := by decide +kernel
theorem dX1_rowFor_17 : decode cX1_rowFor 17 = .ok (.if_icmp .lt 7, 3) := by decide +kernel
theorem dX1_rowFor_20 : decode cX1_rowFor 20 = .ok (.iload_n 2, 1) := by decide +kernel
theorem dX1_rowFor_21 : decode cX1_rowFor 21 = .ok (.goto 16, 3) := by decide +kernel
theorem dX1_rowFor_24 : decode cX1_rowFor 24 = .ok (.iload_n 1, 1) := by decide +kernel
theorem dX1_rowFor_25 : decode cX1_rowFor 25 = .ok (.invokestatic 40, 3) := by decide +kernel
theorem dX1_rowFor_28 : decode cX1_rowFor 28 = .ok (.aload_n 0, 1) := by decide +kernel
theorem dX1_rowFor_29 : decode cX1_rowFor 29 = .ok (.getfield 9, 3) := by decide +kernel
theorem dX1_rowFor_32 : decode cX1_rowFor 32 = .ok (.iconst 1, 1) := by decide +kernel
theorem dX1_rowFor_33 : decode cX1_rowFor 33 = .ok (.iadd, 1) := by decide +kernel
theorem dX1_rowFor_34 : decode cX1_rowFor 34 = .ok (.invokestatic 44, 3) := by decide +kernel
theorem dX1_rowFor_37 : decode cX1_rowFor 37 = .ok (.ireturn, 1) := by decide +kernel
theorem dX1_fullAt_0 : decode cX1_fullAt 0 = .ok (.iload_n 1, 1) := by decide +kernel
theorem dX1_fullAt_1 : decode cX1_fullAt 1 = .ok (.iload_n 2, 1) := by decide +kernel
theorem dX1_fullAt_2 : decode cX1_fullAt 2 = .ok (.imul, 1) := by decide +kernel
theorem dX1_fullAt_3 : decode cX1_fullAt 3 = .ok (.aload_n 0, 1) := by decide +kernel
theorem dX1_fullAt_4 : decode cX1_fullAt 4 = .ok (.getfield 27, 3) := by decide +kernel
theorem dX1_fullAt_7 : decode cX1_fullAt 7 = .ok (.getfield 85, 3) := by decide +kernel
theorem dX1_fullAt_10 : decode cX1_fullAt 10 = .ok (.imul, 1) := by decide +kernel
theorem dX1_fullAt_11 : decode cX1_fullAt 11 = .ok (.ireturn, 1) := by decide +kernel
theorem dX1_reset_0 : decode cX1_reset 0 = .ok (.aload_n 0, 1) := by decide +kernel
theorem dX1_reset_1 : decode cX1_reset 1 = .ok (.iconst 0, 1) := by decide +kernel
theorem dX1_reset_2 : decode cX1_reset 2 = .ok (.putfield 9, 3) := by decide +kernel
theorem dX1_reset_5 : decode cX1_reset 5 = .ok (.aload_n 0, 1) := by decide +kernel
theorem dX1_reset_6 : decode cX1_reset 6 = .ok (.iconst 0, 1) := by decide +kernel
theorem dX1_reset_7 : decode cX1_reset 7 = .ok (.putfield 15, 3) := by decide +kernel
theorem dX1_reset_10 : decode cX1_reset 10 = .ok (.aload_n 0, 1) := by decide +kernel
theorem dX1_reset_11 : decode cX1_reset 11 = .ok (.getfield 36, 3) := by decide +kernel
theorem dX1_reset_14 : decode cX1_reset 14 = .ok (.invokevirtual 82, 3) := by decide +kernel
theorem dX1_reset_17 : decode cX1_reset 17 = .ok (.return_, 1) := by decide +kernel
theorem dX1_splitNext_0 : decode cX1_splitNext 0 = .ok (.aload_n 0, 1) := by decide +kernel
theorem dX1_splitNext_1 : decode cX1_splitNext 1 = .ok (.getfield 36, 3) := by decide +kernel
theorem dX1_splitNext_4 : decode cX1_splitNext 4 = .ok (.aload_n 0, 1) := by decide +kernel
theorem dX1_splitNext_5 : decode cX1_splitNext 5 = .ok (.getfield 15, 3) := by decide +kernel
theorem dX1_splitNext_8 : decode cX1_splitNext 8 = .ok (.aload_n 0, 1) := by decide +kernel
theorem dX1_splitNext_9 : decode cX1_splitNext 9 = .ok (.getfield 15, 3) := by decide +kernel
theorem dX1_splitNext_12 : decode cX1_splitNext 12 = .ok (.aload_n 0, 1) := by decide +kernel
theorem dX1_splitNext_13 : decode cX1_splitNext 13 = .ok (.invokevirtual 63, 3) := by decide +kernel
theorem dX1_splitNext_16 : decode cX1_splitNext 16 = .ok (.aload_n 0, 1) := by decide +kernel
theorem dX1_splitNext_17 : decode cX1_splitNext 17 = .ok (.getfield 9, 3) := by decide +kernel
theorem dX1_splitNext_20 : decode cX1_splitNext 20 = .ok (.invokevirtual 88, 3) := by decide +kernel
theorem dX1_splitNext_23 : decode cX1_splitNext 23 = .ok (.aload_n 0, 1) := by decide +kernel
theorem dX1_splitNext_24 : decode cX1_splitNext 24 = .ok (.dup, 1) := by decide +kernel
theorem dX1_splitNext_25 : decode cX1_splitNext 25 = .ok (.getfield 15, 3) := by decide +kernel
theorem dX1_splitNext_28 : decode cX1_splitNext 28 = .ok (.iconst 1, 1) := by decide +kernel
theorem dX1_splitNext_29 : decode cX1_splitNext 29 = .ok (.iadd, 1) := by decide +kernel
theorem dX1_splitNext_30 : decode cX1_splitNext 30 = .ok (.putfield 15, 3) := by decide +kernel
theorem dX1_splitNext_33 : decode cX1_splitNext 33 = .ok (.aload_n 0, 1) := by decide +kernel
theorem dX1_splitNext_34 : decode cX1_splitNext 34 = .ok (.getfield 15, 3) := by decide +kernel
theorem dX1_splitNext_37 : decode cX1_splitNext 37 = .ok (.iconst 1, 1) := by decide +kernel
theorem dX1_splitNext_38 : decode cX1_splitNext 38 = .ok (.aload_n 0, 1) := by decide +kernel
theorem dX1_splitNext_39 : decode cX1_splitNext 39 = .ok (.getfield 9, 3) := by decide +kernel
theorem dX1_splitNext_42 : decode cX1_splitNext 42 = .ok (.ishl, 1) := by decide +kernel
theorem dX1_splitNext_43 : decode cX1_splitNext 43 = .ok (.if_icmp .ne 18, 3) := by decide +kernel
theorem dX1_splitNext_46 : decode cX1_splitNext 46 = .ok (.aload_n 0, 1) := by decide +kernel
theorem dX1_splitNext_47 : decode cX1_splitNext 47 = .ok (.dup, 1) := by decide +kernel
theorem dX1_splitNext_48 : decode cX1_splitNext 48 = .ok (.getfield 9, 3) := by decide +kernel
theorem dX1_splitNext_51 : decode cX1_splitNext 51 = .ok (.iconst 1, 1) := by decide +kernel
theorem dX1_splitNext_52 : decode cX1_splitNext 52 = .ok (.iadd, 1) := by decide +kernel
theorem dX1_splitNext_53 : decode cX1_splitNext 53 = .ok (.putfield 9, 3) := by decide +kernel
theorem dX1_splitNext_56 : decode cX1_splitNext 56 = .ok (.aload_n 0, 1) := by decide +kernel
theorem dX1_splitNext_57 : decode cX1_splitNext 57 = .ok (.iconst 0, 1) := by decide +kernel
theorem dX1_splitNext_58 : decode cX1_splitNext 58 = .ok (.putfield 15, 3) := by decide +kernel
theorem dX1_splitNext_61 : decode cX1_splitNext 61 = .ok (.aload_n 0, 1) := by decide +kernel
theorem dX1_splitNext_62 : decode cX1_splitNext 62 = .ok (.dup, 1) := by decide +kernel
theorem dX1_splitNext_63 : decode cX1_splitNext 63 = .ok (.getfield 24, 3) := by decide +kernel
theorem dX1_splitNext_66 : decode cX1_splitNext 66 = .ok (.iconst 1, 1) := by decide +kernel
theorem dX1_splitNext_67 : decode cX1_splitNext 67 = .ok (.iadd, 1) := by decide +kernel
theorem dX1_splitNext_68 : decode cX1_splitNext 68 = .ok (.putfield 24, 3) := by decide +kernel
theorem dX1_splitNext_71 : decode cX1_splitNext 71 = .ok (.return_, 1) := by decide +kernel
theorem dX1_takeBackSplit_0 : decode cX1_takeBackSplit 0 = .ok (.aload_n 0, 1) := by decide +kernel
theorem dX1_takeBackSplit_1 : decode cX1_takeBackSplit 1 = .ok (.getfield 15, 3) := by decide +kernel
theorem dX1_takeBackSplit_4 : decode cX1_takeBackSplit 4 = .ok (.ifCond .ne 23, 3) := by decide +kernel
theorem dX1_takeBackSplit_7 : decode cX1_takeBackSplit 7 = .ok (.aload_n 0, 1) := by decide +kernel
theorem dX1_takeBackSplit_8 : decode cX1_takeBackSplit 8 = .ok (.dup, 1) := by decide +kernel
theorem dX1_takeBackSplit_9 : decode cX1_takeBackSplit 9 = .ok (.getfield 9, 3) := by decide +kernel
theorem dX1_takeBackSplit_12 : decode cX1_takeBackSplit 12 = .ok (.iconst 1, 1) := by decide +kernel
theorem dX1_takeBackSplit_13 : decode cX1_takeBackSplit 13 = .ok (.isub, 1) := by decide +kernel
theorem dX1_takeBackSplit_14 : decode cX1_takeBackSplit 14 = .ok (.putfield 9, 3) := by decide +kernel
theorem dX1_takeBackSplit_17 : decode cX1_takeBackSplit 17 = .ok (.aload_n 0, 1) := by decide +kernel
theorem dX1_takeBackSplit_18 : decode cX1_takeBackSplit 18 = .ok (.iconst 1, 1) := by decide +kernel
theorem dX1_takeBackSplit_19 : decode cX1_takeBackSplit 19 = .ok (.aload_n 0, 1) := by decide +kernel
theorem dX1_takeBackSplit_20 : decode cX1_takeBackSplit 20 = .ok (.getfield 9, 3) := by decide +kernel
theorem dX1_takeBackSplit_23 : decode cX1_takeBackSplit 23 = .ok (.ishl, 1) := by decide +kernel
theorem dX1_takeBackSplit_24 : decode cX1_takeBackSplit 24 = .ok (.putfield 15, 3) := by decide +kernel
theorem dX1_takeBackSplit_27 : decode cX1_takeBackSplit 27 = .ok (.aload_n 0, 1) := by decide +kernel
theorem dX1_takeBackSplit_28 : decode cX1_takeBackSplit 28 = .ok (.dup, 1) := by decide +kernel
theorem dX1_takeBackSplit_29 : decode cX1_takeBackSplit 29 = .ok (.getfield 15, 3) := by decide +kernel
theorem dX1_takeBackSplit_32 : decode cX1_takeBackSplit 32 = .ok (.iconst 1, 1) := by decide +kernel
theorem dX1_takeBackSplit_33 : decode cX1_takeBackSplit 33 = .ok (.isub, 1) := by decide +kernel
theorem dX1_takeBackSplit_34 : decode cX1_takeBackSplit 34 = .ok (.putfield 15, 3) := by decide +kernel
theorem dX1_takeBackSplit_37 : decode cX1_takeBackSplit 37 = .ok (.aload_n 0, 1) := by decide +kernel
theorem dX1_takeBackSplit_38 : decode cX1_takeBackSplit 38 = .ok (.getfield 36, 3) := by decide +kernel
theorem dX1_takeBackSplit_41 : decode cX1_takeBackSplit 41 = .ok (.aload_n 0, 1) := by decide +kernel
theorem dX1_takeBackSplit_42 : decode cX1_takeBackSplit 42 = .ok (.invokevirtual 63, 3) := by decide +kernel
theorem dX1_takeBackSplit_45 : decode cX1_takeBackSplit 45 = .ok (.aload_n 0, 1) := by decide +kernel
theorem dX1_takeBackSplit_46 : decode cX1_takeBackSplit 46 = .ok (.getfield 15, 3) := by decide +kernel
theorem dX1_takeBackSplit_49 : decode cX1_takeBackSplit 49 = .ok (.invokevirtual 92, 3) := by decide +kernel
theorem dX1_takeBackSplit_52 : decode cX1_takeBackSplit 52 = .ok (.aload_n 0, 1) := by decide +kernel
theorem dX1_takeBackSplit_53 : decode cX1_takeBackSplit 53 = .ok (.dup, 1) := by decide +kernel
theorem dX1_takeBackSplit_54 : decode cX1_takeBackSplit 54 = .ok (.getfield 24, 3) := by decide +kernel
theorem dX1_takeBackSplit_57 : decode cX1_takeBackSplit 57 = .ok (.iconst 1, 1) := by decide +kernel
theorem dX1_takeBackSplit_58 : decode cX1_takeBackSplit 58 = .ok (.isub, 1) := by decide +kernel
theorem dX1_takeBackSplit_59 : decode cX1_takeBackSplit 59 = .ok (.putfield 24, 3) := by decide +kernel
theorem dX1_takeBackSplit_62 : decode cX1_takeBackSplit 62 = .ok (.return_, 1) := by decide +kernel
theorem dX1_insert_0 : decode cX1_insert 0 = .ok (.aload_n 0, 1) := by decide +kernel
theorem dX1_insert_1 : decode cX1_insert 1 = .ok (.getfield 36, 3) := by decide +kernel
theorem dX1_insert_4 : decode cX1_insert 4 = .ok (.aload_n 0, 1) := by decide +kernel
theorem dX1_insert_5 : decode cX1_insert 5 = .ok (.aload_n 0, 1) := by decide +kernel
theorem dX1_insert_6 : decode cX1_insert 6 = .ok (.getfield 27, 3) := by decide +kernel
theorem dX1_insert_9 : decode cX1_insert 9 = .ok (.iload_n 1, 1) := by decide +kernel
theorem dX1_insert_10 : decode cX1_insert 10 = .ok (.invokevirtual 54, 3) := by decide +kernel
theorem dX1_insert_13 : decode cX1_insert 13 = .ok (.invokevirtual 48, 3) := by decide +kernel
theorem dX1_insert_16 : decode cX1_insert 16 = .ok (.iload_n 1, 1) := by decide +kernel
theorem dX1_insert_17 : decode cX1_insert 17 = .ok (.invokevirtual 59, 3) := by decide +kernel
theorem dX1_insert_20 : decode cX1_insert 20 = .ok (.aload_n 0, 1) := by decide +kernel
theorem dX1_insert_21 : decode cX1_insert 21 = .ok (.invokevirtual 63, 3) := by decide +kernel
theorem dX1_insert_24 : decode cX1_insert 24 = .ok (.istore_n 2, 1) := by decide +kernel
theorem dX1_insert_25 : decode cX1_insert 25 = .ok (.iload_n 2, 1) := by decide +kernel
theorem dX1_insert_26 : decode cX1_insert 26 = .ok (.sipush 256, 3) := by decide +kernel
theorem dX1_insert_29 : decode cX1_insert 29 = .ok (.if_icmp .ge 35, 3) := by decide +kernel
theorem dX1_insert_32 : decode cX1_insert 32 = .ok (.bipush 100, 2) := by decide +kernel
theorem dX1_insert_34 : decode cX1_insert 34 = .ok (.aload_n 0, 1) := by decide +kernel
theorem dX1_insert_35 : decode cX1_insert 35 = .ok (.getfield 27, 3) := by decide +kernel
theorem dX1_insert_38 : decode cX1_insert 38 = .ok (.getfield 67, 3) := by decide +kernel
theorem dX1_insert_41 : decode cX1_insert 41 = .ok (.imul, 1) := by decide +kernel
theorem dX1_insert_42 : decode cX1_insert 42 = .ok (.aload_n 0, 1) := by decide +kernel
theorem dX1_insert_43 : decode cX1_insert 43 = .ok (.aload_n 0, 1) := by decide +kernel
theorem dX1_insert_44 : decode cX1_insert 44 = .ok (.getfield 21, 3) := by decide +kernel
theorem dX1_insert_47 : decode cX1_insert 47 = .ok (.iload_n 2, 1) := by decide +kernel
theorem dX1_insert_48 : decode cX1_insert 48 = .ok (.invokevirtual 70, 3) := by decide +kernel
theorem dX1_insert_51 : decode cX1_insert 51 = .ok (.if_icmp .le 13, 3) := by decide +kernel
theorem dX1_insert_54 : decode cX1_insert 54 = .ok (.aload_n 0, 1) := by decide +kernel
theorem dX1_insert_55 : decode cX1_insert 55 = .ok (.invokevirtual 73, 3) := by decide +kernel
theorem dX1_insert_58 : decode cX1_insert 58 = .ok (.iinc 2 1, 3) := by decide +kernel
theorem dX1_insert_61 : decode cX1_insert 61 = .ok (.goto (-36), 3) := by decide +kernel
theorem dX1_insert_64 : decode cX1_insert 64 = .ok (.return_, 1) := by decide +kernel
theorem dX1_delete_0 : decode cX1_delete 0 = .ok (.aload_n 0, 1) := by decide +kernel
theorem dX1_delete_1 : decode cX1_delete 1 = .ok (.getfield 36, 3) := by decide +kernel
theorem dX1_delete_4 : decode cX1_delete 4 = .ok (.aload_n 0, 1) := by decide +kernel
theorem dX1_delete_5 : decode cX1_delete 5 = .ok (.aload_n 0, 1) := by decide +kernel
theorem dX1_delete_6 : decode cX1_delete 6 = .ok (.getfield 27, 3) := by decide +kernel
theorem dX1_delete_9 : decode cX1_delete 9 = .ok (.iload_n 1, 1) := by decide +kernel
theorem dX1_delete_10 : decode cX1_delete 10 = .ok (.invokevirtual 54, 3) := by decide +kernel
theorem dX1_delete_13 : decode cX1_delete 13 = .ok (.invokevirtual 48, 3) := by decide +kernel
theorem dX1_delete_16 : decode cX1_delete 16 = .ok (.iload_n 1, 1) := by decide +kernel
theorem dX1_delete_17 : decode cX1_delete 17 = .ok (.invokevirtual 76, 3) := by decide +kernel
theorem dX1_delete_20 : decode cX1_delete 20 = .ok (.aload_n 0, 1) := by decide +kernel
theorem dX1_delete_21 : decode cX1_delete 21 = .ok (.invokevirtual 63, 3) := by decide +kernel
theorem dX1_delete_24 : decode cX1_delete 24 = .ok (.istore_n 2, 1) := by decide +kernel
theorem dX1_delete_25 : decode cX1_delete 25 = .ok (.iload_n 2, 1) := by decide +kernel
theorem dX1_delete_26 : decode cX1_delete 26 = .ok (.iconst 1, 1) := by decide +kernel
theorem dX1_delete_27 : decode cX1_delete 27 = .ok (.if_icmp .le 35, 3) := by decide +kernel
theorem dX1_delete_30 : decode cX1_delete 30 = .ok (.bipush 100, 2) := by decide +kernel
theorem dX1_delete_32 : decode cX1_delete 32 = .ok (.aload_n 0, 1) := by decide +kernel
theorem dX1_delete_33 : decode cX1_delete 33 = .ok (.getfield 27, 3) := by decide +kernel
theorem dX1_delete_36 : decode cX1_delete 36 = .ok (.getfield 67, 3) := by decide +kernel
theorem dX1_delete_39 : decode cX1_delete 39 = .ok (.imul, 1) := by decide +kernel
theorem dX1_delete_40 : decode cX1_delete 40 = .ok (.aload_n 0, 1) := by decide +kernel
theorem dX1_delete_41 : decode cX1_delete 41 = .ok (.aload_n 0, 1) := by decide +kernel
theorem dX1_delete_42 : decode cX1_delete 42 = .ok (.getfield 18, 3) := by decide +kernel
theorem dX1_delete_45 : decode cX1_delete 45 = .ok (.iload_n 2, 1) := by decide +kernel
theorem dX1_delete_46 : decode cX1_delete 46 = .ok (.invokevirtual 70, 3) := by decide +kernel
theorem dX1_delete_49 : decode cX1_delete 49 = .ok (.if_icmp .ge 13, 3) := by decide +kernel
theorem dX1_delete_52 : decode cX1_delete 52 = .ok (.aload_n 0, 1) := by decide +kernel
theorem dX1_delete_53 : decode cX1_delete 53 = .ok (.invokevirtual 79, 3) := by decide +kernel
theorem dX1_delete_56 : decode cX1_delete 56 = .ok (.iinc 2 (-1), 3) := by decide +kernel
theorem dX1_delete_59 : decode cX1_delete 59 = .ok (.goto (-34), 3) := by decide +kernel
theorem dX1_delete_62 : decode cX1_delete 62 = .ok (.return_, 1) := by decide +kernel
set_option maxHeartbeats 4000000 in
set_option maxRecDepth 100000 in
theorem c_X1_countBuckets (l : Launch) (D : va_G) (cy : ClassId) (a : Nat → Nat) (key : Nat → Nat) (val : Nat → Nat) (ord : Nat → Nat) (tk : Nat) (cp : Nat) (efi : Nat → Nat) (ela : Nat → Nat) (eco : Nat → Nat) (ene : Nat → Nat) (ldp : Nat → Nat) (dp : Nat) (dbl : Int32) (hlv : Int32) (spl : Int32) (mrg : Int32) (lfi : Nat → Nat) (lla : Nat → Nat) (lco : Nat → Nat) (lne : Nat → Nat) (lev : Nat) (ptr : Nat) (llo : Nat) (lhi : Nat) (lsp : Int32)  (hY : YOK lev ptr)  : tq_F l yX1_countBuckets cX1_countBuckets 1 (some .int) 0 0 D cy (wC cy a key val ord tk cp efi ela eco ene ldp dp dbl hlv spl mrg lfi lla lco lne lev ptr llo lhi lsp) [.ref (a 3)] (fun r => r = (nI (2 ^ lev + ptr))) := by
  refine tq_F.mk (by decide) (Nat.le_of_ble_eq_true rfl) ?_
  intro p e s m args below meth c C hP hK ls hl
  obtain ⟨hx, hb, hml, hown, hrt, hlk, hT⟩ := id C
  have hl : lv_has ls 1 [(0, .ref (a 3))] := hl
  have hlv9 := hY.lev
  have hp7 := p2_le (c := 7) hlv9
  have hpt := hY.1
  have hmn := hY.2
  refine lv_iconst (v := nI 1) hx hb dX1_countBuckets_0 (by decide) ?_
  refine lv_aload_n hx hb dX1_countBuckets_1 rfl (lv_at hl 0 rfl) ?_
  refine tq_get (C0 := RX1) (T := TX1) (N := 7) (ci := 1) (k := 2) C gX1 inX1 rfl (by decide) rfl fl_X1_9 hK hP 3 rfl rfl dX1_countBuckets_2 ?_
  refine tq_ishl C (by omega) (by omega) dX1_countBuckets_5 ?_
  refine tq_top (y := nI (2 ^ lev)) (by rw [Nat.one_mul]) ?_
  refine lv_aload_n hx hb dX1_countBuckets_6 rfl (lv_at hl 0 rfl) ?_
  refine tq_get (C0 := RX1) (T := TX1) (N := 7) (ci := 1) (k := 3) C gX1 inX1 rfl (by decide) rfl fl_X1_15 hK hP 3 rfl rfl dX1_countBuckets_7 ?_
  refine tq_iadd C dX1_countBuckets_10 ?_
  exact tq_fret (v := (nI ((2 ^ lev) + ptr))) C rfl (rfl) dX1_countBuckets_11
set_option maxHeartbeats 4000000 in
set_option maxRecDepth 100000 in
theorem c_X1_rowFor (l : Launch) (D : va_G) (cy : ClassId) (a : Nat → Nat) (key : Nat → Nat) (val : Nat → Nat) (ord : Nat → Nat) (tk : Nat) (cp : Nat) (efi : Nat → Nat) (ela : Nat → Nat) (eco : Nat → Nat) (ene : Nat → Nat) (ldp : Nat → Nat) (dp : Nat) (dbl : Int32) (hlv : Int32) (spl : Int32) (mrg : Int32) (lfi : Nat → Nat) (lla : Nat → Nat) (lco : Nat → Nat) (lne : Nat → Nat) (lev : Nat) (ptr : Nat) (llo : Nat) (lhi : Nat) (lsp : Int32) (kx : Nat) (hY : YOK lev ptr) (hkx : kx < 65536) : tq_F l yX1_rowFor cX1_rowFor 3 (some .int) 2 41 D cy (wC cy a key val ord tk cp efi ela eco ene ldp dp dbl hlv spl mrg lfi lla lco lne lev ptr llo lhi lsp) [.ref (a 3), .int (nI (kx))] (fun r => r = (nI (linOf lev ptr kx))) := by
  refine tq_F.mk (by decide) (Nat.le_of_ble_eq_true rfl) ?_
  intro p e s m args below meth c C hP hK ls hl
  obtain ⟨hx, hb, hml, hown, hrt, hlk, hT⟩ := id C
  have hl : lv_has ls 3 [(0, .ref (a 3)), (1, .int (nI (kx)))] := hl
  have hlv9 := hY.lev
  have hp7 := p2_le (c := 7) hlv9
  have hpt := hY.1
  have hmn := hY.2
  have hh := hs_lt kx
  have hml := Nat.mod_le (hs kx) (2 ^ lev)
  refine lv_iload_n hx hb dX1_rowFor_0 rfl (lv_at hl 1 rfl) ?_
  refine tq_callF (va_runSN C.fix (As := [.int (nI (kx))]) (rest := []) (c_X4_hash l D cy kx hkx) (tq_cN (n := 1) C mn_X1_40 sm_X4_hash ini_X4 cd_X4_hash ⟨by decide, by decide, by decide +kernel⟩ ⟨Nat.le_of_ble_eq_true rfl, Nat.le_of_ble_eq_true rfl⟩) ⟨tq_Pf.blind, tq_preF C hK (hP.sub [] rfl)⟩ rfl rfl hl.1 rfl (lv_room (Nat.le_of_ble_eq_true rfl)) dX1_rowFor_1 ⟨Nat.le_of_ble_eq_true rfl, Nat.le_of_ble_eq_true rfl⟩) (fun r1 hr1 => ?_)
  obtain rfl := hr1
  refine lv_aload_n hx hb dX1_rowFor_4 rfl (lv_at hl 0 rfl) ?_
  refine tq_get (C0 := RX1) (T := TX1) (N := 7) (ci := 1) (k := 2) C gX1 inX1 rfl (by decide) rfl fl_X1_9 hK hP 3 rfl rfl dX1_rowFor_5 ?_
  refine tq_callF (va_runSN C.fix (As := [.int (nI (hs kx)), .int (nI (lev))]) (rest := []) (c_X4_lowBits l D cy (hs kx) lev (by omega) (by omega)) (tq_cN (n := 2) C mn_X1_44 sm_X4_lowBits ini_X4 cd_X4_lowBits ⟨by decide, by decide, by decide +kernel⟩ ⟨Nat.le_of_ble_eq_true rfl, Nat.le_of_ble_eq_true rfl⟩) ⟨tq_Pf.blind, tq_preF C hK (hP.sub [] rfl)⟩ rfl rfl hl.1 rfl (lv_room (Nat.le_of_ble_eq_true rfl)) dX1_rowFor_8 ⟨Nat.le_of_ble_eq_true rfl, Nat.le_of_ble_eq_true rfl⟩) (fun r8 hr8 => ?_)
  obtain rfl := hr8
  refine lv_istore_n (lv' := [(2, .int (nI ((hs kx) % 2 ^ lev))), (0, .ref (a 3)), (1, .int (nI (kx)))]) hx hb dX1_rowFor_11 rfl hl (by decide) rfl (fun ls hl => ?_)
  refine lv_iload_n hx hb dX1_rowFor_12 rfl (lv_at hl 0 rfl) ?_
  refine lv_aload_n hx hb dX1_rowFor_13 rfl (lv_at hl 1 rfl) ?_
  refine tq_get (C0 := RX1) (T := TX1) (N := 7) (ci := 1) (k := 3) C gX1 inX1 rfl (by decide) rfl fl_X1_15 hK hP 3 rfl rfl dX1_rowFor_14 ?_
  refine tq_icmp_lt (tgt := 24) C (by omega) (by omega) dX1_rowFor_17 (by decide) (fun h17 => ?_) (fun h17 => ?_)
  · refine lv_iload_n hx hb dX1_rowFor_24 rfl (lv_at hl 2 rfl) ?_
    refine tq_callF (va_runSN C.fix (As := [.int (nI (kx))]) (rest := []) (c_X4_hash l D cy kx hkx) (tq_cN (n := 1) C mn_X1_40 sm_X4_hash ini_X4 cd_X4_hash ⟨by decide, by decide, by decide +kernel⟩ ⟨Nat.le_of_ble_eq_true rfl, Nat.le_of_ble_eq_true rfl⟩) ⟨tq_Pf.blind, tq_preF C hK (hP.sub [] rfl)⟩ rfl rfl hl.1 rfl (lv_room (Nat.le_of_ble_eq_true rfl)) dX1_rowFor_25 ⟨Nat.le_of_ble_eq_true rfl, Nat.le_of_ble_eq_true rfl⟩) (fun r25 hr25 => ?_)
    obtain rfl := hr25
    refine lv_aload_n hx hb dX1_rowFor_28 rfl (lv_at hl 1 rfl) ?_
    refine tq_get (C0 := RX1) (T := TX1) (N := 7) (ci := 1) (k := 2) C gX1 inX1 rfl (by decide) rfl fl_X1_9 hK hP 3 rfl rfl dX1_rowFor_29 ?_
    refine lv_iconst (v := nI 1) hx hb dX1_rowFor_32 (by decide) ?_
    refine tq_iadd C dX1_rowFor_33 ?_
    refine tq_callF (va_runSN C.fix (As := [.int (nI (hs kx)), .int (nI (lev + 1))]) (rest := []) (c_X4_lowBits l D cy (hs kx) (lev + 1) (by omega) (by omega)) (tq_cN (n := 2) C mn_X1_44 sm_X4_lowBits ini_X4 cd_X4_lowBits ⟨by decide, by decide, by decide +kernel⟩ ⟨Nat.le_of_ble_eq_true rfl, Nat.le_of_ble_eq_true rfl⟩) ⟨tq_Pf.blind, tq_preF C hK (hP.sub [] rfl)⟩ rfl rfl hl.1 rfl (lv_room (Nat.le_of_ble_eq_true rfl)) dX1_rowFor_34 ⟨Nat.le_of_ble_eq_true rfl, Nat.le_of_ble_eq_true rfl⟩) (fun r34 hr34 => ?_)
    obtain rfl := hr34
    exact tq_fret (v := (nI ((hs kx) % 2 ^ (lev + 1)))) C rfl (by rw [show linOf lev ptr kx = hs kx % 2 ^ (lev + 1) from if_neg (by omega)]) dX1_rowFor_37
  · refine lv_iload_n hx hb dX1_rowFor_20 rfl (lv_at hl 0 rfl) ?_
    refine lv_goto (tgt := 37) hx hb dX1_rowFor_21 (by decide) ?_
    exact tq_fret (v := (nI ((hs kx) % 2 ^ lev))) C rfl (by rw [show linOf lev ptr kx = hs kx % 2 ^ lev from if_pos h17]) dX1_rowFor_37
set_option maxHeartbeats 4000000 in
set_option maxRecDepth 100000 in
theorem c_X1_fullAt (l : Launch) (D : va_G) (cy : ClassId) (a : Nat → Nat) (key : Nat → Nat) (val : Nat → Nat) (ord : Nat → Nat) (tk : Nat) (cp : Nat) (efi : Nat → Nat) (ela : Nat → Nat) (eco : Nat → Nat) (ene : Nat → Nat) (ldp : Nat → Nat) (dp : Nat) (dbl : Int32) (hlv : Int32) (spl : Int32) (mrg : Int32) (lfi : Nat → Nat) (lla : Nat → Nat) (lco : Nat → Nat) (lne : Nat → Nat) (lev : Nat) (ptr : Nat) (llo : Nat) (lhi : Nat) (lsp : Int32) (pct : Nat) (bk : Nat)  : tq_F l yX1_fullAt cX1_fullAt 3 (some .int) 0 0 D cy (wC cy a key val ord tk cp efi ela eco ene ldp dp dbl hlv spl mrg lfi lla lco lne lev ptr llo lhi lsp) [.ref (a 3), .int (nI (pct)), .int (nI (bk))] (fun r => r = (nI (pct * bk * cp))) := by
  refine tq_F.mk (by decide) (Nat.le_of_ble_eq_true rfl) ?_
  intro p e s m args below meth c C hP hK ls hl
  obtain ⟨hx, hb, hml, hown, hrt, hlk, hT⟩ := id C
  have hl : lv_has ls 3 [(0, .ref (a 3)), (1, .int (nI (pct))), (2, .int (nI (bk)))] := hl
  refine lv_iload_n hx hb dX1_fullAt_0 rfl (lv_at hl 1 rfl) ?_
  refine lv_iload_n hx hb dX1_fullAt_1 rfl (lv_at hl 2 rfl) ?_
  refine tq_imul C dX1_fullAt_2 ?_
  refine lv_aload_n hx hb dX1_fullAt_3 rfl (lv_at hl 0 rfl) ?_
  refine tq_get (C0 := RX1) (T := TX1) (N := 7) (ci := 1) (k := 0) C gX1 inX1 rfl (by decide) rfl fl_X1_27 hK hP 3 rfl rfl dX1_fullAt_4 ?_
  refine tq_getN (C0 := RX3) (T := TX3) (N := 5) (ci := 3) (k := 4) C gX3 inX3 rfl (by decide) rfl fn_X1_85 hK hP 1 rfl rfl dX1_fullAt_7 ?_
  refine tq_imul C dX1_fullAt_10 ?_
  exact tq_fret (v := (nI ((pct * bk) * cp))) C rfl (rfl) dX1_fullAt_11
set_option maxHeartbeats 4000000 in
set_option maxRecDepth 100000 in
theorem c_X1_reset (l : Launch) (D : va_G) (cy : ClassId) (a : Nat → Nat) (key : Nat → Nat) (val : Nat → Nat) (ord : Nat → Nat) (tk : Nat) (cp : Nat) (efi : Nat → Nat) (ela : Nat → Nat) (eco : Nat → Nat) (ene : Nat → Nat) (ldp : Nat → Nat) (dp : Nat) (dbl : Int32) (hlv : Int32) (spl : Int32) (mrg : Int32) (lfi : Nat → Nat) (lla : Nat → Nat) (lco : Nat → Nat) (lne : Nat → Nat) (lev : Nat) (ptr : Nat) (llo : Nat) (lhi : Nat) (lsp : Int32)   : tq_V (S := (Nat → Nat) × (Nat → Nat) × (Nat → Nat)) l yX1_reset cX1_reset 1 3 62 0 0 D cy (wC cy a key val ord tk cp efi ela eco ene ldp dp dbl hlv spl mrg lfi lla lco lne lev ptr llo lhi lsp) [.ref (a 3)] (fun u => RR u.1 u.2.1 u.2.2 lne (fun _ => [])) (fun u => (wC cy a key val ord tk cp efi ela eco ene ldp dp dbl hlv spl mrg u.1 u.2.1 u.2.2 lne 0 0 llo lhi lsp)) := by
  refine tq_V.mk (by decide) (Nat.le_of_ble_eq_true rfl) ?_
  intro p e s m args below meth c A C hin hP hK hD hS hA ls hl
  obtain ⟨hx, hb, hml, hown, hrt, hlk, hT⟩ := id C
  have hl : lv_has ls 1 [(0, .ref (a 3))] := hl
  refine lv_aload_n hx hb dX1_reset_0 rfl (lv_at hl 0 rfl) ?_
  refine lv_iconst (v := nI 0) hx hb dX1_reset_1 (by decide) ?_
  refine tq_put (v := .int (nI (0))) (C0 := RX1) (T := TX1) (N := 7) (ci := 1) (k := 2) (ty := .int) C gX1 inX1 tyX1_ok nmX1 rfl (by decide) rfl fl_X1_9 rfl (by decide +kernel) hK hP hD hS 3 rfl rfl rfl (Nat.le_of_ble_eq_true rfl) dX1_reset_2 (fun H locs hP hD hS => ?_)
  have hP : va_P D vwCl (wC cy a key val ord tk cp efi ela eco ene ldp dp dbl hlv spl mrg lfi lla lco lne 0 ptr llo lhi lsp) H := hP
  have hD : va_D A (wC cy a key val ord tk cp efi ela eco ene ldp dp dbl hlv spl mrg lfi lla lco lne 0 ptr llo lhi lsp) := hD
  refine lv_aload_n hx hb dX1_reset_5 rfl (lv_at hl 0 rfl) ?_
  refine lv_iconst (v := nI 0) hx hb dX1_reset_6 (by decide) ?_
  refine tq_put (v := .int (nI (0))) (C0 := RX1) (T := TX1) (N := 7) (ci := 1) (k := 3) (ty := .int) C gX1 inX1 tyX1_ok nmX1 rfl (by decide) rfl fl_X1_15 rfl (by decide +kernel) hK hP hD hS 3 rfl rfl rfl (Nat.le_of_ble_eq_true rfl) dX1_reset_7 (fun H locs hP hD hS => ?_)
  have hP : va_P D vwCl (wC cy a key val ord tk cp efi ela eco ene ldp dp dbl hlv spl mrg lfi lla lco lne 0 0 llo lhi lsp) H := hP
  have hD : va_D A (wC cy a key val ord tk cp efi ela eco ene ldp dp dbl hlv spl mrg lfi lla lco lne 0 0 llo lhi lsp) := hD
  refine lv_aload_n hx hb dX1_reset_10 rfl (lv_at hl 0 rfl) ?_
  refine tq_get (C0 := RX1) (T := TX1) (N := 7) (ci := 1) (k := 1) C gX1 inX1 rfl (by decide) rfl fl_X1_36 hK hP 3 rfl rfl dX1_reset_11 ?_
  refine tq_callV (W3 := fun u => (wC cy a key val ord tk cp efi ela eco ene ldp dp dbl hlv spl mrg u.1 u.2.1 u.2.2 lne 0 0 llo lhi lsp)) (wr := [0, 2, 3, 5, 6, 7, 8, 10, 11, 12, 13].filterMap (fun i => (wC cy a key val ord tk cp efi ela eco ene ldp dp dbl hlv spl mrg lfi lla lco lne 0 0 llo lhi lsp)[i]?)) (va_runV C.fix (As := []) (rest := []) ((c_X2_emptyAllRows l D cy (a 9) (a 14) (a 15) (a 16) (a 17) (a 1) (a 4) (a 5) (a 6) lfi lla lco lne key tk cp) H.size) (tq_cV (n := 0) C ml_X1_82 im_X2_emptyAllRows se_X2_emptyAllRows ini_X2 cd_X2_emptyAllRows ⟨by decide, by decide, by decide +kernel⟩ ⟨Nat.le_of_ble_eq_true rfl, Nat.le_of_ble_eq_true rfl⟩) ⟨tq_Pc.blind, va_recv hK hP (ci := 2) (q0 := 9) rfl rfl, tq_preC C hK (hP.sub [9, 14, 15, 16, 17, 1, 4] rfl) (hD.sub [9, 14, 15, 16, 17, 1, 4] (by decide) rfl)⟩ rfl rfl hl.1 rfl (lv_room (Nat.le_of_ble_eq_true rfl)) dX1_reset_14 ⟨Nat.le_of_ble_eq_true rfl, Nat.le_of_ble_eq_true rfl⟩) hP hD hS hA [9, 14, 15, 16, 17, 1, 4] [0, 2, 3, 5, 6, 7, 8, 10, 11, 12, 13] [0, 16, 1, 2, 17, 3, 4, 5, 6, 11, 7, 8, 9, 10, 12, 13, 14, 15] rfl rfl (by decide) (by decide) (by decide) (fun _ => rfl) (fun u14 H locs hr14 hP hD hS => ?_)
  obtain ⟨lfi2, lla2, lco2⟩ := u14
  try dsimp only at hr14
  have hP : va_P D vwCl (wC cy a key val ord tk cp efi ela eco ene ldp dp dbl hlv spl mrg lfi2 lla2 lco2 lne 0 0 llo lhi lsp) H := hP
  have hD : va_D A (wC cy a key val ord tk cp efi ela eco ene ldp dp dbl hlv spl mrg lfi2 lla2 lco2 lne 0 0 llo lhi lsp) := hD
  exact tq_vret C (lfi2, lla2, lco2) hP hD hS (hr14) (Nat.le_of_ble_eq_true rfl) (Nat.le_of_ble_eq_true rfl) dX1_reset_17
set_option maxHeartbeats 4000000 in
set_option maxRecDepth 100000 in
theorem c_X1_splitNext (l : Launch) (D : va_G) (cy : ClassId) (a : Nat → Nat) (key : Nat → Nat) (val : Nat → Nat) (ord : Nat → Nat) (tk : Nat) (cp : Nat) (efi : Nat → Nat) (ela : Nat → Nat) (eco : Nat → Nat) (ene : Nat → Nat) (ldp : Nat → Nat) (dp : Nat) (dbl : Int32) (hlv : Int32) (spl : Int32) (mrg : Int32) (lfi : Nat → Nat) (lla : Nat → Nat) (lco : Nat → Nat) (lne : Nat → Nat) (lev : Nat) (ptr : Nat) (llo : Nat) (lhi : Nat) (lsp : Int32)  (rows : Nat → List Nat) (L : List Nat) (US : Nat → Prop) (hYR : YR key lev ptr lfi lla lco lne rows L US) (hkey : ∀ e, 1 ≤ e → e ≤ 120 → key e < 65536) (hm : 2 ^ lev + ptr < 240) : tq_V (S := (Nat → Nat) × (Nat → Nat) × (Nat → Nat) × (Nat → Nat) × Nat × Nat) l yX1_splitNext cX1_splitNext 1 3 71 0 0 D cy (wC cy a key val ord tk cp efi ela eco ene ldp dp dbl hlv spl mrg lfi lla lco lne lev ptr llo lhi lsp) [.ref (a 3)] (fun u => (∃ rows2, YR key u.2.2.2.2.1 u.2.2.2.2.2 u.1 u.2.1 u.2.2.1 u.2.2.2.1 rows2 L US) ∧ (u.2.2.2.2.1, u.2.2.2.2.2) = lsplit (lev, ptr)) (fun u => (wC cy a key val ord tk cp efi ela eco ene ldp dp dbl hlv spl mrg u.1 u.2.1 u.2.2.1 u.2.2.2.1 u.2.2.2.2.1 u.2.2.2.2.2 llo lhi (lsp + nI 1))) := by
  refine tq_V.mk (by decide) (Nat.le_of_ble_eq_true rfl) ?_
  intro p e s m args below meth c A C hin hP hK hD hS hA ls hl
  obtain ⟨hx, hb, hml, hown, hrt, hlk, hT⟩ := id C
  have hl : lv_has ls 1 [(0, .ref (a 3))] := hl
  have hY := hYR.2.1
  have hlv9 := hY.lev
  have hp7 := p2_le (c := 7) hlv9
  have hpt := hY.1
  have hmn := hY.2
  refine lv_aload_n hx hb dX1_splitNext_0 rfl (lv_at hl 0 rfl) ?_
  refine tq_get (C0 := RX1) (T := TX1) (N := 7) (ci := 1) (k := 1) C gX1 inX1 rfl (by decide) rfl fl_X1_36 hK hP 3 rfl rfl dX1_splitNext_1 ?_
  refine lv_aload_n hx hb dX1_splitNext_4 rfl (lv_at hl 0 rfl) ?_
  refine tq_get (C0 := RX1) (T := TX1) (N := 7) (ci := 1) (k := 3) C gX1 inX1 rfl (by decide) rfl fl_X1_15 hK hP 3 rfl rfl dX1_splitNext_5 ?_
  refine lv_aload_n hx hb dX1_splitNext_8 rfl (lv_at hl 0 rfl) ?_
  refine tq_get (C0 := RX1) (T := TX1) (N := 7) (ci := 1) (k := 3) C gX1 inX1 rfl (by decide) rfl fl_X1_15 hK hP 3 rfl rfl dX1_splitNext_9 ?_
  refine lv_aload_n hx hb dX1_splitNext_12 rfl (lv_at hl 0 rfl) ?_
  refine tq_callF (va_runV C.fix (As := []) (rest := [.int (nI (ptr)), .int (nI (ptr)), .ref (a 9)]) (c_X1_countBuckets l D cy a key val ord tk cp efi ela eco ene ldp dp dbl hlv spl mrg lfi lla lco lne lev ptr llo lhi lsp hY) (tq_cV (n := 0) C ml_X1_63 im_X1_countBuckets se_X1_countBuckets ini_X1 cd_X1_countBuckets ⟨by decide, by decide, by decide +kernel⟩ ⟨Nat.le_of_ble_eq_true rfl, Nat.le_of_ble_eq_true rfl⟩) ⟨tq_Pf.blind, va_recv hK hP (ci := 1) (q0 := 3) rfl rfl, tq_preF C hK hP⟩ rfl rfl hl.1 rfl (lv_room (Nat.le_of_ble_eq_true rfl)) dX1_splitNext_13 ⟨Nat.le_of_ble_eq_true rfl, Nat.le_of_ble_eq_true rfl⟩) (fun r13 hr13 => ?_)
  obtain rfl := hr13
  refine lv_aload_n hx hb dX1_splitNext_16 rfl (lv_at hl 0 rfl) ?_
  refine tq_get (C0 := RX1) (T := TX1) (N := 7) (ci := 1) (k := 2) C gX1 inX1 rfl (by decide) rfl fl_X1_9 hK hP 3 rfl rfl dX1_splitNext_17 ?_
  refine tq_callV (W3 := fun u => (wC cy a key val ord tk cp efi ela eco ene ldp dp dbl hlv spl mrg u.1 u.2.1 u.2.2.1 u.2.2.2 lev ptr llo lhi lsp)) (wr := [0, 2, 3, 5, 6, 7, 8, 10, 11, 12, 13].filterMap (fun i => (wC cy a key val ord tk cp efi ela eco ene ldp dp dbl hlv spl mrg lfi lla lco lne lev ptr llo lhi lsp)[i]?)) (va_runV C.fix (As := [.int (nI (ptr)), .int (nI (ptr)), .int (nI (2 ^ lev + ptr)), .int (nI (lev))]) (rest := []) ((c_X2_deal l D cy (a 9) (a 14) (a 15) (a 16) (a 17) (a 1) (a 4) (a 5) (a 6) lfi lla lco lne key tk cp ptr ptr (2 ^ lev + ptr) lev rows hYR.1 hkey (by omega) (by omega) (by omega) (by omega)) s.heap.size) (tq_cV (n := 4) C ml_X1_88 im_X2_deal se_X2_deal ini_X2 cd_X2_deal ⟨by decide, by decide, by decide +kernel⟩ ⟨Nat.le_of_ble_eq_true rfl, Nat.le_of_ble_eq_true rfl⟩) ⟨tq_Pc.blind, va_recv hK hP (ci := 2) (q0 := 9) rfl rfl, tq_preC C hK (hP.sub [9, 14, 15, 16, 17, 1, 4] rfl) (hD.sub [9, 14, 15, 16, 17, 1, 4] (by decide) rfl)⟩ rfl rfl hl.1 rfl (lv_room (Nat.le_of_ble_eq_true rfl)) dX1_splitNext_20 ⟨Nat.le_of_ble_eq_true rfl, Nat.le_of_ble_eq_true rfl⟩) hP hD hS hA [9, 14, 15, 16, 17, 1, 4] [0, 2, 3, 5, 6, 7, 8, 10, 11, 12, 13] [0, 16, 1, 2, 17, 3, 4, 5, 6, 11, 7, 8, 9, 10, 12, 13, 14, 15] rfl rfl (by decide) (by decide) (by decide) (fun _ => rfl) (fun u20 H locs hr20 hP hD hS => ?_)
  obtain ⟨lfi2, lla2, lco2, lne2⟩ := u20
  try dsimp only at hr20
  have hP : va_P D vwCl (wC cy a key val ord tk cp efi ela eco ene ldp dp dbl hlv spl mrg lfi2 lla2 lco2 lne2 lev ptr llo lhi lsp) H := hP
  have hD : va_D A (wC cy a key val ord tk cp efi ela eco ene ldp dp dbl hlv spl mrg lfi2 lla2 lco2 lne2 lev ptr llo lhi lsp) := hD
  have hYs := hYR.split hm hr20 (fun r _ => rfl)
  refine lv_aload_n hx hb dX1_splitNext_23 rfl (lv_at hl 0 rfl) ?_
  refine lv_dup hx hb dX1_splitNext_24 rfl ?_
  refine tq_get (C0 := RX1) (T := TX1) (N := 7) (ci := 1) (k := 3) C gX1 inX1 rfl (by decide) rfl fl_X1_15 hK hP 3 rfl rfl dX1_splitNext_25 ?_
  refine lv_iconst (v := nI 1) hx hb dX1_splitNext_28 (by decide) ?_
  refine tq_iadd C dX1_splitNext_29 ?_
  refine tq_put (v := .int (nI (ptr + 1))) (C0 := RX1) (T := TX1) (N := 7) (ci := 1) (k := 3) (ty := .int) C gX1 inX1 tyX1_ok nmX1 rfl (by decide) rfl fl_X1_15 rfl (by decide +kernel) hK hP hD hS 3 rfl rfl rfl (Nat.le_of_ble_eq_true rfl) dX1_splitNext_30 (fun H locs hP hD hS => ?_)
  have hP : va_P D vwCl (wC cy a key val ord tk cp efi ela eco ene ldp dp dbl hlv spl mrg lfi2 lla2 lco2 lne2 lev (ptr + 1) llo lhi lsp) H := hP
  have hD : va_D A (wC cy a key val ord tk cp efi ela eco ene ldp dp dbl hlv spl mrg lfi2 lla2 lco2 lne2 lev (ptr + 1) llo lhi lsp) := hD
  refine lv_aload_n hx hb dX1_splitNext_33 rfl (lv_at hl 0 rfl) ?_
  refine tq_get (C0 := RX1) (T := TX1) (N := 7) (ci := 1) (k := 3) C gX1 inX1 rfl (by decide) rfl fl_X1_15 hK hP 3 rfl rfl dX1_splitNext_34 ?_
  refine lv_iconst (v := nI 1) hx hb dX1_splitNext_37 (by decide) ?_
  refine lv_aload_n hx hb dX1_splitNext_38 rfl (lv_at hl 0 rfl) ?_
  refine tq_get (C0 := RX1) (T := TX1) (N := 7) (ci := 1) (k := 2) C gX1 inX1 rfl (by decide) rfl fl_X1_9 hK hP 3 rfl rfl dX1_splitNext_39 ?_
  refine tq_ishl C (by omega) (by omega) dX1_splitNext_42 ?_
  refine tq_top (y := nI (2 ^ lev)) (by rw [Nat.one_mul]) ?_
  refine tq_icmp_ne (tgt := 61) C (by omega) (by omega) dX1_splitNext_43 (by decide) (fun h43 => ?_) (fun h43 => ?_)
  · have hls : lsplit (lev, ptr) = (lev, ptr + 1) := if_neg h43
    rw [hls] at hYs
    refine lv_aload_n hx hb dX1_splitNext_61 rfl (lv_at hl 0 rfl) ?_
    refine lv_dup hx hb dX1_splitNext_62 rfl ?_
    refine tq_get (C0 := RX1) (T := TX1) (N := 7) (ci := 1) (k := 6) C gX1 inX1 rfl (by decide) rfl fl_X1_24 hK hP 3 rfl rfl dX1_splitNext_63 ?_
    refine lv_iconst (v := nI 1) hx hb dX1_splitNext_66 (by decide) ?_
    refine lv_iadd hx hb dX1_splitNext_67 ?_
    refine tq_put (v := .int (lsp + nI 1)) (C0 := RX1) (T := TX1) (N := 7) (ci := 1) (k := 6) (ty := .int) C gX1 inX1 tyX1_ok nmX1 rfl (by decide) rfl fl_X1_24 rfl (by decide +kernel) hK hP hD hS 3 rfl rfl rfl (Nat.le_of_ble_eq_true rfl) dX1_splitNext_68 (fun H locs hP hD hS => ?_)
    have hP : va_P D vwCl (wC cy a key val ord tk cp efi ela eco ene ldp dp dbl hlv spl mrg lfi2 lla2 lco2 lne2 lev (ptr + 1) llo lhi (lsp + nI 1)) H := hP
    have hD : va_D A (wC cy a key val ord tk cp efi ela eco ene ldp dp dbl hlv spl mrg lfi2 lla2 lco2 lne2 lev (ptr + 1) llo lhi (lsp + nI 1)) := hD
    exact tq_vret C (lfi2, lla2, lco2, lne2, lev, ptr + 1) hP hD hS (⟨⟨_, hYs⟩, hls.symm⟩) (Nat.le_of_ble_eq_true rfl) (Nat.le_of_ble_eq_true rfl) dX1_splitNext_71
  · have hls : lsplit (lev, ptr) = (lev + 1, 0) := if_pos h43
    rw [hls] at hYs
    refine lv_aload_n hx hb dX1_splitNext_46 rfl (lv_at hl 0 rfl) ?_
    refine lv_dup hx hb dX1_splitNext_47 rfl ?_
    refine tq_get (C0 := RX1) (T := TX1) (N := 7) (ci := 1) (k := 2) C gX1 inX1 rfl (by decide) rfl fl_X1_9 hK hP 3 rfl rfl dX1_splitNext_48 ?_
    refine lv_iconst (v := nI 1) hx hb dX1_splitNext_51 (by decide) ?_
    refine tq_iadd C dX1_splitNext_52 ?_
    refine tq_put (v := .int (nI (lev + 1))) (C0 := RX1) (T := TX1) (N := 7) (ci := 1) (k := 2) (ty := .int) C gX1 inX1 tyX1_ok nmX1 rfl (by decide) rfl fl_X1_9 rfl (by decide +kernel) hK hP hD hS 3 rfl rfl rfl (Nat.le_of_ble_eq_true rfl) dX1_splitNext_53 (fun H locs hP hD hS => ?_)
    have hP : va_P D vwCl (wC cy a key val ord tk cp efi ela eco ene ldp dp dbl hlv spl mrg lfi2 lla2 lco2 lne2 (lev + 1) (ptr + 1) llo lhi lsp) H := hP
    have hD : va_D A (wC cy a key val ord tk cp efi ela eco ene ldp dp dbl hlv spl mrg lfi2 lla2 lco2 lne2 (lev + 1) (ptr + 1) llo lhi lsp) := hD
    refine lv_aload_n hx hb dX1_splitNext_56 rfl (lv_at hl 0 rfl) ?_
    refine lv_iconst (v := nI 0) hx hb dX1_splitNext_57 (by decide) ?_
    refine tq_put (v := .int (nI (0))) (C0 := RX1) (T := TX1) (N := 7) (ci := 1) (k := 3) (ty := .int) C gX1 inX1 tyX1_ok nmX1 rfl (by decide) rfl fl_X1_15 rfl (by decide +kernel) hK hP hD hS 3 rfl rfl rfl (Nat.le_of_ble_eq_true rfl) dX1_splitNext_58 (fun H locs hP hD hS => ?_)
    have hP : va_P D vwCl (wC cy a key val ord tk cp efi ela eco ene ldp dp dbl hlv spl mrg lfi2 lla2 lco2 lne2 (lev + 1) 0 llo lhi lsp) H := hP
    have hD : va_D A (wC cy a key val ord tk cp efi ela eco ene ldp dp dbl hlv spl mrg lfi2 lla2 lco2 lne2 (lev + 1) 0 llo lhi lsp) := hD
    refine lv_aload_n hx hb dX1_splitNext_61 rfl (lv_at hl 0 rfl) ?_
    refine lv_dup hx hb dX1_splitNext_62 rfl ?_
    refine tq_get (C0 := RX1) (T := TX1) (N := 7) (ci := 1) (k := 6) C gX1 inX1 rfl (by decide) rfl fl_X1_24 hK hP 3 rfl rfl dX1_splitNext_63 ?_
    refine lv_iconst (v := nI 1) hx hb dX1_splitNext_66 (by decide) ?_
    refine lv_iadd hx hb dX1_splitNext_67 ?_
    refine tq_put (v := .int (lsp + nI 1)) (C0 := RX1) (T := TX1) (N := 7) (ci := 1) (k := 6) (ty := .int) C gX1 inX1 tyX1_ok nmX1 rfl (by decide) rfl fl_X1_24 rfl (by decide +kernel) hK hP hD hS 3 rfl rfl rfl (Nat.le_of_ble_eq_true rfl) dX1_splitNext_68 (fun H locs hP hD hS => ?_)
    have hP : va_P D vwCl (wC cy a key val ord tk cp efi ela eco ene ldp dp dbl hlv spl mrg lfi2 lla2 lco2 lne2 (lev + 1) 0 llo lhi (lsp + nI 1)) H := hP
    have hD : va_D A (wC cy a key val ord tk cp efi ela eco ene ldp dp dbl hlv spl mrg lfi2 lla2 lco2 lne2 (lev + 1) 0 llo lhi (lsp + nI 1)) := hD
    exact tq_vret C (lfi2, lla2, lco2, lne2, lev + 1, 0) hP hD hS (⟨⟨_, hYs⟩, hls.symm⟩) (Nat.le_of_ble_eq_true rfl) (Nat.le_of_ble_eq_true rfl) dX1_splitNext_71
set_option maxHeartbeats 4000000 in
set_option maxRecDepth 100000 in
theorem c_X1_takeBackSplit (l : Launch) (D : va_G) (cy : ClassId) (a : Nat → Nat) (key : Nat → Nat) (val : Nat → Nat) (ord : Nat → Nat) (tk : Nat) (cp : Nat) (efi : Nat → Nat) (ela : Nat → Nat) (eco : Nat → Nat) (ene : Nat → Nat) (ldp : Nat → Nat) (dp : Nat) (dbl : Int32) (hlv : Int32) (spl : Int32) (mrg : Int32) (lfi : Nat → Nat) (lla : Nat → Nat) (lco : Nat → Nat) (lne : Nat → Nat) (lev : Nat) (ptr : Nat) (llo : Nat) (lhi : Nat) (lsp : Int32)  (rows : Nat → List Nat) (L : List Nat) (US : Nat → Prop) (hYR : YR key lev ptr lfi lla lco lne rows L US) (hkey : ∀ e, 1 ≤ e → e ≤ 120 → key e < 65536) (hm : 1 < 2 ^ lev + ptr) : tq_V (S := (Nat → Nat) × (Nat → Nat) × (Nat → Nat) × (Nat → Nat) × Nat × Nat) l yX1_takeBackSplit cX1_takeBackSplit 1 4 93 0 0 D cy (wC cy a key val ord tk cp efi ela eco ene ldp dp dbl hlv spl mrg lfi lla lco lne lev ptr llo lhi lsp) [.ref (a 3)] (fun u => (∃ rows2, YR key u.2.2.2.2.1 u.2.2.2.2.2 u.1 u.2.1 u.2.2.1 u.2.2.2.1 rows2 (mvL L lev ptr (2 ^ lev + ptr - 1)) US) ∧ (u.2.2.2.2.1, u.2.2.2.2.2) = lback (lev, ptr)) (fun u => (wC cy a key val ord tk cp efi ela eco ene ldp dp dbl hlv spl mrg u.1 u.2.1 u.2.2.1 u.2.2.2.1 u.2.2.2.2.1 u.2.2.2.2.2 llo lhi (lsp - nI 1))) := by
  refine tq_V.mk (by decide) (Nat.le_of_ble_eq_true rfl) ?_
  intro p e s m args below meth c A C hin hP hK hD hS hA ls hl
  obtain ⟨hx, hb, hml, hown, hrt, hlk, hT⟩ := id C
  have hl : lv_has ls 1 [(0, .ref (a 3))] := hl
  have hY := hYR.2.1
  have hlv9 := hY.lev
  have hp7 := p2_le (c := 7) hlv9
  have hpt := hY.1
  have hmn := hY.2
  have hbk := lback_ok hY hm
  have hbs := lback_split hY hm
  refine lv_aload_n hx hb dX1_takeBackSplit_0 rfl (lv_at hl 0 rfl) ?_
  refine tq_get (C0 := RX1) (T := TX1) (N := 7) (ci := 1) (k := 3) C gX1 inX1 rfl (by decide) rfl fl_X1_15 hK hP 3 rfl rfl dX1_takeBackSplit_1 ?_
  refine tq_if_ne (tgt := 27) C (by omega) dX1_takeBackSplit_4 (by decide) (fun h4 => ?_) (fun h4 => ?_)
  · have hls : lback (lev, ptr) = (lev, ptr - 1) := if_neg h4
    rw [hls] at hbk hbs
    dsimp only at hbk hbs
    refine lv_aload_n hx hb dX1_takeBackSplit_27 rfl (lv_at hl 0 rfl) ?_
    refine lv_dup hx hb dX1_takeBackSplit_28 rfl ?_
    refine tq_get (C0 := RX1) (T := TX1) (N := 7) (ci := 1) (k := 3) C gX1 inX1 rfl (by decide) rfl fl_X1_15 hK hP 3 rfl rfl dX1_takeBackSplit_29 ?_
    refine lv_iconst (v := nI 1) hx hb dX1_takeBackSplit_32 (by decide) ?_
    refine tq_isub C (by have := p2_pos (lev - 1); omega) dX1_takeBackSplit_33 ?_
    refine tq_put (v := .int (nI (ptr - 1))) (C0 := RX1) (T := TX1) (N := 7) (ci := 1) (k := 3) (ty := .int) C gX1 inX1 tyX1_ok nmX1 rfl (by decide) rfl fl_X1_15 rfl (by decide +kernel) hK hP hD hS 3 rfl rfl rfl (Nat.le_of_ble_eq_true rfl) dX1_takeBackSplit_34 (fun H locs hP hD hS => ?_)
    have hP : va_P D vwCl (wC cy a key val ord tk cp efi ela eco ene ldp dp dbl hlv spl mrg lfi lla lco lne lev (ptr - 1) llo lhi lsp) H := hP
    have hD : va_D A (wC cy a key val ord tk cp efi ela eco ene ldp dp dbl hlv spl mrg lfi lla lco lne lev (ptr - 1) llo lhi lsp) := hD
    refine lv_aload_n hx hb dX1_takeBackSplit_37 rfl (lv_at hl 0 rfl) ?_
    refine tq_get (C0 := RX1) (T := TX1) (N := 7) (ci := 1) (k := 1) C gX1 inX1 rfl (by decide) rfl fl_X1_36 hK hP 3 rfl rfl dX1_takeBackSplit_38 ?_
    refine lv_aload_n hx hb dX1_takeBackSplit_41 rfl (lv_at hl 0 rfl) ?_
    refine tq_callF (va_runV C.fix (As := []) (rest := [.ref (a 9)]) (c_X1_countBuckets l D cy a key val ord tk cp efi ela eco ene ldp dp dbl hlv spl mrg lfi lla lco lne lev (ptr - 1) llo lhi lsp hbk) (tq_cV (n := 0) C ml_X1_63 im_X1_countBuckets se_X1_countBuckets ini_X1 cd_X1_countBuckets ⟨by decide, by decide, by decide +kernel⟩ ⟨Nat.le_of_ble_eq_true rfl, Nat.le_of_ble_eq_true rfl⟩) ⟨tq_Pf.blind, va_recv hK hP (ci := 1) (q0 := 3) rfl rfl, tq_preF C hK hP⟩ rfl rfl hl.1 rfl (lv_room (Nat.le_of_ble_eq_true rfl)) dX1_takeBackSplit_42 ⟨Nat.le_of_ble_eq_true rfl, Nat.le_of_ble_eq_true rfl⟩) (fun r42 hr42 => ?_)
    obtain rfl := hr42
    refine lv_aload_n hx hb dX1_takeBackSplit_45 rfl (lv_at hl 0 rfl) ?_
    refine tq_get (C0 := RX1) (T := TX1) (N := 7) (ci := 1) (k := 3) C gX1 inX1 rfl (by decide) rfl fl_X1_15 hK hP 3 rfl rfl dX1_takeBackSplit_46 ?_
    refine tq_callV (W3 := fun u => (wC cy a key val ord tk cp efi ela eco ene ldp dp dbl hlv spl mrg u.1 u.2.1 u.2.2.1 u.2.2.2 lev (ptr - 1) llo lhi lsp)) (wr := [0, 2, 3, 5, 6, 7, 8, 10, 11, 12, 13].filterMap (fun i => (wC cy a key val ord tk cp efi ela eco ene ldp dp dbl hlv spl mrg lfi lla lco lne lev (ptr - 1) llo lhi lsp)[i]?)) (va_runV C.fix (As := [.int (nI (2 ^ lev + (ptr - 1))), .int (nI ((ptr - 1)))]) (rest := []) ((c_X2_pour l D cy (a 9) (a 14) (a 15) (a 16) (a 17) (a 1) (a 4) (a 5) (a 6) lfi lla lco lne key tk cp (2 ^ lev + (ptr - 1)) (ptr - 1) rows hYR.1 hkey (by omega) (by omega)) H.size) (tq_cV (n := 2) C ml_X1_92 im_X2_pour se_X2_pour ini_X2 cd_X2_pour ⟨by decide, by decide, by decide +kernel⟩ ⟨Nat.le_of_ble_eq_true rfl, Nat.le_of_ble_eq_true rfl⟩) ⟨tq_Pc.blind, va_recv hK hP (ci := 2) (q0 := 9) rfl rfl, tq_preC C hK (hP.sub [9, 14, 15, 16, 17, 1, 4] rfl) (hD.sub [9, 14, 15, 16, 17, 1, 4] (by decide) rfl)⟩ rfl rfl hl.1 rfl (lv_room (Nat.le_of_ble_eq_true rfl)) dX1_takeBackSplit_49 ⟨Nat.le_of_ble_eq_true rfl, Nat.le_of_ble_eq_true rfl⟩) hP hD hS hA [9, 14, 15, 16, 17, 1, 4] [0, 2, 3, 5, 6, 7, 8, 10, 11, 12, 13] [0, 16, 1, 2, 17, 3, 4, 5, 6, 11, 7, 8, 9, 10, 12, 13, 14, 15] rfl rfl (by decide) (by decide) (by decide) (fun _ => rfl) (fun u49 H locs hr49 hP hD hS => ?_)
    obtain ⟨lfi2, lla2, lco2, lne2⟩ := u49
    try dsimp only at hr49
    have hP : va_P D vwCl (wC cy a key val ord tk cp efi ela eco ene ldp dp dbl hlv spl mrg lfi2 lla2 lco2 lne2 lev (ptr - 1) llo lhi lsp) H := hP
    have hD : va_D A (wC cy a key val ord tk cp efi ela eco ene ldp dp dbl hlv spl mrg lfi2 lla2 lco2 lne2 lev (ptr - 1) llo lhi lsp) := hD
    have hYb := hYR.back hm (v2 := lev) (p2 := ptr - 1) (by rw [hls]) (by rw [hls]) hr49 (fun r _ => rfl)
    refine lv_aload_n hx hb dX1_takeBackSplit_52 rfl (lv_at hl 0 rfl) ?_
    refine lv_dup hx hb dX1_takeBackSplit_53 rfl ?_
    refine tq_get (C0 := RX1) (T := TX1) (N := 7) (ci := 1) (k := 6) C gX1 inX1 rfl (by decide) rfl fl_X1_24 hK hP 3 rfl rfl dX1_takeBackSplit_54 ?_
    refine lv_iconst (v := nI 1) hx hb dX1_takeBackSplit_57 (by decide) ?_
    refine lv_isub hx hb dX1_takeBackSplit_58 ?_
    refine tq_put (v := .int (lsp - nI 1)) (C0 := RX1) (T := TX1) (N := 7) (ci := 1) (k := 6) (ty := .int) C gX1 inX1 tyX1_ok nmX1 rfl (by decide) rfl fl_X1_24 rfl (by decide +kernel) hK hP hD hS 3 rfl rfl rfl (Nat.le_of_ble_eq_true rfl) dX1_takeBackSplit_59 (fun H locs hP hD hS => ?_)
    have hP : va_P D vwCl (wC cy a key val ord tk cp efi ela eco ene ldp dp dbl hlv spl mrg lfi2 lla2 lco2 lne2 lev (ptr - 1) llo lhi (lsp - nI 1)) H := hP
    have hD : va_D A (wC cy a key val ord tk cp efi ela eco ene ldp dp dbl hlv spl mrg lfi2 lla2 lco2 lne2 lev (ptr - 1) llo lhi (lsp - nI 1)) := hD
    exact tq_vret C (lfi2, lla2, lco2, lne2, lev, ptr - 1) hP hD hS (⟨⟨_, hYb⟩, hls.symm⟩) (Nat.le_of_ble_eq_true rfl) (Nat.le_of_ble_eq_true rfl) dX1_takeBackSplit_62
  · have hls : lback (lev, ptr) = (lev - 1, 2 ^ (lev - 1) - 1) := if_pos h4
    rw [hls] at hbk hbs
    dsimp only at hbk hbs
    have hl1 : 1 ≤ lev := by
      rcases Nat.eq_zero_or_pos lev with q | q
      · rw [q, h4] at hm; simp at hm
      · exact q
    have hp6 := p2_le (c := 7) (b := lev - 1) (by omega)
    refine lv_aload_n hx hb dX1_takeBackSplit_7 rfl (lv_at hl 0 rfl) ?_
    refine lv_dup hx hb dX1_takeBackSplit_8 rfl ?_
    refine tq_get (C0 := RX1) (T := TX1) (N := 7) (ci := 1) (k := 2) C gX1 inX1 rfl (by decide) rfl fl_X1_9 hK hP 3 rfl rfl dX1_takeBackSplit_9 ?_
    refine lv_iconst (v := nI 1) hx hb dX1_takeBackSplit_12 (by decide) ?_
    refine tq_isub C hl1 dX1_takeBackSplit_13 ?_
    refine tq_put (v := .int (nI (lev - 1))) (C0 := RX1) (T := TX1) (N := 7) (ci := 1) (k := 2) (ty := .int) C gX1 inX1 tyX1_ok nmX1 rfl (by decide) rfl fl_X1_9 rfl (by decide +kernel) hK hP hD hS 3 rfl rfl rfl (Nat.le_of_ble_eq_true rfl) dX1_takeBackSplit_14 (fun H locs hP hD hS => ?_)
    have hP : va_P D vwCl (wC cy a key val ord tk cp efi ela eco ene ldp dp dbl hlv spl mrg lfi lla lco lne (lev - 1) ptr llo lhi lsp) H := hP
    have hD : va_D A (wC cy a key val ord tk cp efi ela eco ene ldp dp dbl hlv spl mrg lfi lla lco lne (lev - 1) ptr llo lhi lsp) := hD
    refine lv_aload_n hx hb dX1_takeBackSplit_17 rfl (lv_at hl 0 rfl) ?_
    refine lv_iconst (v := nI 1) hx hb dX1_takeBackSplit_18 (by decide) ?_
    refine lv_aload_n hx hb dX1_takeBackSplit_19 rfl (lv_at hl 0 rfl) ?_
    refine tq_get (C0 := RX1) (T := TX1) (N := 7) (ci := 1) (k := 2) C gX1 inX1 rfl (by decide) rfl fl_X1_9 hK hP 3 rfl rfl dX1_takeBackSplit_20 ?_
    refine tq_ishl C (by omega) (by omega) dX1_takeBackSplit_23 ?_
    refine tq_top (y := nI (2 ^ (lev - 1))) (by rw [Nat.one_mul]) ?_
    refine tq_put (v := .int (nI (2 ^ (lev - 1)))) (C0 := RX1) (T := TX1) (N := 7) (ci := 1) (k := 3) (ty := .int) C gX1 inX1 tyX1_ok nmX1 rfl (by decide) rfl fl_X1_15 rfl (by decide +kernel) hK hP hD hS 3 rfl rfl rfl (Nat.le_of_ble_eq_true rfl) dX1_takeBackSplit_24 (fun H locs hP hD hS => ?_)
    have hP : va_P D vwCl (wC cy a key val ord tk cp efi ela eco ene ldp dp dbl hlv spl mrg lfi lla lco lne (lev - 1) (2 ^ (lev - 1)) llo lhi lsp) H := hP
    have hD : va_D A (wC cy a key val ord tk cp efi ela eco ene ldp dp dbl hlv spl mrg lfi lla lco lne (lev - 1) (2 ^ (lev - 1)) llo lhi lsp) := hD
    refine lv_aload_n hx hb dX1_takeBackSplit_27 rfl (lv_at hl 0 rfl) ?_
    refine lv_dup hx hb dX1_takeBackSplit_28 rfl ?_
    refine tq_get (C0 := RX1) (T := TX1) (N := 7) (ci := 1) (k := 3) C gX1 inX1 rfl (by decide) rfl fl_X1_15 hK hP 3 rfl rfl dX1_takeBackSplit_29 ?_
    refine lv_iconst (v := nI 1) hx hb dX1_takeBackSplit_32 (by decide) ?_
    refine tq_isub C (by have := p2_pos (lev - 1); omega) dX1_takeBackSplit_33 ?_
    refine tq_put (v := .int (nI ((2 ^ (lev - 1)) - 1))) (C0 := RX1) (T := TX1) (N := 7) (ci := 1) (k := 3) (ty := .int) C gX1 inX1 tyX1_ok nmX1 rfl (by decide) rfl fl_X1_15 rfl (by decide +kernel) hK hP hD hS 3 rfl rfl rfl (Nat.le_of_ble_eq_true rfl) dX1_takeBackSplit_34 (fun H locs hP hD hS => ?_)
    have hP : va_P D vwCl (wC cy a key val ord tk cp efi ela eco ene ldp dp dbl hlv spl mrg lfi lla lco lne (lev - 1) ((2 ^ (lev - 1)) - 1) llo lhi lsp) H := hP
    have hD : va_D A (wC cy a key val ord tk cp efi ela eco ene ldp dp dbl hlv spl mrg lfi lla lco lne (lev - 1) ((2 ^ (lev - 1)) - 1) llo lhi lsp) := hD
    refine lv_aload_n hx hb dX1_takeBackSplit_37 rfl (lv_at hl 0 rfl) ?_
    refine tq_get (C0 := RX1) (T := TX1) (N := 7) (ci := 1) (k := 1) C gX1 inX1 rfl (by decide) rfl fl_X1_36 hK hP 3 rfl rfl dX1_takeBackSplit_38 ?_
    refine lv_aload_n hx hb dX1_takeBackSplit_41 rfl (lv_at hl 0 rfl) ?_
    refine tq_callF (va_runV C.fix (As := []) (rest := [.ref (a 9)]) (c_X1_countBuckets l D cy a key val ord tk cp efi ela eco ene ldp dp dbl hlv spl mrg lfi lla lco lne (lev - 1) ((2 ^ (lev - 1)) - 1) llo lhi lsp hbk) (tq_cV (n := 0) C ml_X1_63 im_X1_countBuckets se_X1_countBuckets ini_X1 cd_X1_countBuckets ⟨by decide, by decide, by decide +kernel⟩ ⟨Nat.le_of_ble_eq_true rfl, Nat.le_of_ble_eq_true rfl⟩) ⟨tq_Pf.blind, va_recv hK hP (ci := 1) (q0 := 3) rfl rfl, tq_preF C hK hP⟩ rfl rfl hl.1 rfl (lv_room (Nat.le_of_ble_eq_true rfl)) dX1_takeBackSplit_42 ⟨Nat.le_of_ble_eq_true rfl, Nat.le_of_ble_eq_true rfl⟩) (fun r42 hr42 => ?_)
    obtain rfl := hr42
    refine lv_aload_n hx hb dX1_takeBackSplit_45 rfl (lv_at hl 0 rfl) ?_
    refine tq_get (C0 := RX1) (T := TX1) (N := 7) (ci := 1) (k := 3) C gX1 inX1 rfl (by decide) rfl fl_X1_15 hK hP 3 rfl rfl dX1_takeBackSplit_46 ?_
    refine tq_callV (W3 := fun u => (wC cy a key val ord tk cp efi ela eco ene ldp dp dbl hlv spl mrg u.1 u.2.1 u.2.2.1 u.2.2.2 (lev - 1) ((2 ^ (lev - 1)) - 1) llo lhi lsp)) (wr := [0, 2, 3, 5, 6, 7, 8, 10, 11, 12, 13].filterMap (fun i => (wC cy a key val ord tk cp efi ela eco ene ldp dp dbl hlv spl mrg lfi lla lco lne (lev - 1) ((2 ^ (lev - 1)) - 1) llo lhi lsp)[i]?)) (va_runV C.fix (As := [.int (nI (2 ^ (lev - 1) + ((2 ^ (lev - 1)) - 1))), .int (nI (((2 ^ (lev - 1)) - 1)))]) (rest := []) ((c_X2_pour l D cy (a 9) (a 14) (a 15) (a 16) (a 17) (a 1) (a 4) (a 5) (a 6) lfi lla lco lne key tk cp (2 ^ (lev - 1) + ((2 ^ (lev - 1)) - 1)) ((2 ^ (lev - 1)) - 1) rows hYR.1 hkey (by omega) (by omega)) H.size) (tq_cV (n := 2) C ml_X1_92 im_X2_pour se_X2_pour ini_X2 cd_X2_pour ⟨by decide, by decide, by decide +kernel⟩ ⟨Nat.le_of_ble_eq_true rfl, Nat.le_of_ble_eq_true rfl⟩) ⟨tq_Pc.blind, va_recv hK hP (ci := 2) (q0 := 9) rfl rfl, tq_preC C hK (hP.sub [9, 14, 15, 16, 17, 1, 4] rfl) (hD.sub [9, 14, 15, 16, 17, 1, 4] (by decide) rfl)⟩ rfl rfl hl.1 rfl (lv_room (Nat.le_of_ble_eq_true rfl)) dX1_takeBackSplit_49 ⟨Nat.le_of_ble_eq_true rfl, Nat.le_of_ble_eq_true rfl⟩) hP hD hS hA [9, 14, 15, 16, 17, 1, 4] [0, 2, 3, 5, 6, 7, 8, 10, 11, 12, 13] [0, 16, 1, 2, 17, 3, 4, 5, 6, 11, 7, 8, 9, 10, 12, 13, 14, 15] rfl rfl (by decide) (by decide) (by decide) (fun _ => rfl) (fun u49 H locs hr49 hP hD hS => ?_)
    obtain ⟨lfi2, lla2, lco2, lne2⟩ := u49
    try dsimp only at hr49
    have hP : va_P D vwCl (wC cy a key val ord tk cp efi ela eco ene ldp dp dbl hlv spl mrg lfi2 lla2 lco2 lne2 (lev - 1) ((2 ^ (lev - 1)) - 1) llo lhi lsp) H := hP
    have hD : va_D A (wC cy a key val ord tk cp efi ela eco ene ldp dp dbl hlv spl mrg lfi2 lla2 lco2 lne2 (lev - 1) ((2 ^ (lev - 1)) - 1) llo lhi lsp) := hD
    have hYb := hYR.back hm (v2 := lev - 1) (p2 := 2 ^ (lev - 1) - 1) (by rw [hls]) (by rw [hls]) hr49 (fun r _ => rfl)
    refine lv_aload_n hx hb dX1_takeBackSplit_52 rfl (lv_at hl 0 rfl) ?_
    refine lv_dup hx hb dX1_takeBackSplit_53 rfl ?_
    refine tq_get (C0 := RX1) (T := TX1) (N := 7) (ci := 1) (k := 6) C gX1 inX1 rfl (by decide) rfl fl_X1_24 hK hP 3 rfl rfl dX1_takeBackSplit_54 ?_
    refine lv_iconst (v := nI 1) hx hb dX1_takeBackSplit_57 (by decide) ?_
    refine lv_isub hx hb dX1_takeBackSplit_58 ?_
    refine tq_put (v := .int (lsp - nI 1)) (C0 := RX1) (T := TX1) (N := 7) (ci := 1) (k := 6) (ty := .int) C gX1 inX1 tyX1_ok nmX1 rfl (by decide) rfl fl_X1_24 rfl (by decide +kernel) hK hP hD hS 3 rfl rfl rfl (Nat.le_of_ble_eq_true rfl) dX1_takeBackSplit_59 (fun H locs hP hD hS => ?_)
    have hP : va_P D vwCl (wC cy a key val ord tk cp efi ela eco ene ldp dp dbl hlv spl mrg lfi2 lla2 lco2 lne2 (lev - 1) ((2 ^ (lev - 1)) - 1) llo lhi (lsp - nI 1)) H := hP
    have hD : va_D A (wC cy a key val ord tk cp efi ela eco ene ldp dp dbl hlv spl mrg lfi2 lla2 lco2 lne2 (lev - 1) ((2 ^ (lev - 1)) - 1) llo lhi (lsp - nI 1)) := hD
    exact tq_vret C (lfi2, lla2, lco2, lne2, lev - 1, (2 ^ (lev - 1)) - 1) hP hD hS (⟨⟨_, hYb⟩, hls.symm⟩) (Nat.le_of_ble_eq_true rfl) (Nat.le_of_ble_eq_true rfl) dX1_takeBackSplit_62
set_option maxHeartbeats 4000000 in
set_option maxRecDepth 100000 in
theorem c_X1_insert (l : Launch) (D : va_G) (cy : ClassId) (a : Nat → Nat) (key : Nat → Nat) (val : Nat → Nat) (ord : Nat → Nat) (tk : Nat) (cp : Nat) (efi : Nat → Nat) (ela : Nat → Nat) (eco : Nat → Nat) (ene : Nat → Nat) (ldp : Nat → Nat) (dp : Nat) (dbl : Int32) (hlv : Int32) (spl : Int32) (mrg : Int32) (lfi : Nat → Nat) (lla : Nat → Nat) (lco : Nat → Nat) (lne : Nat → Nat) (lev : Nat) (ptr : Nat) (llo : Nat) (lhi : Nat) (lsp : Int32) (en : Nat) (rows : Nat → List Nat) (L : List Nat) (US : Nat → Prop) (hYR : YR key lev ptr lfi lla lco lne rows L US) (hkey : ∀ e, 1 ≤ e → e ≤ 120 → key e < 65536) (US2 : Nat → Prop) (h1 : 1 ≤ en) (h2 : en ≤ 120) (hcp1 : 1 ≤ cp) (hcp2 : cp ≤ 5) (htk : tk ≤ 120) (hlo : llo ≤ 50) (hh1 : 50 ≤ lhi) (hh2 : lhi ≤ 200) (hnU : ¬ US en) (hU1 : ∀ e, US e → US2 e) (hU2 : US2 en) : tq_V (S := (Nat → Nat) × (Nat → Nat) × (Nat → Nat) × (Nat → Nat) × Nat × Nat × Int32) l yX1_insert cX1_insert 3 4 91 0 0 D cy (wC cy a key val ord tk cp efi ela eco ene ldp dp dbl hlv spl mrg lfi lla lco lne lev ptr llo lhi lsp) [.ref (a 3), .int (nI (en))] (fun u => (∃ rows2, YR key u.2.2.2.2.1 u.2.2.2.2.2.1 u.1 u.2.1 u.2.2.1 u.2.2.2.1 rows2 (L ++ [key en]) US2) ∧ (u.2.2.2.2.1, u.2.2.2.2.2.1, u.2.2.2.2.2.2) = lS cp lhi tk 241 (lev, ptr, lsp)) (fun u => (wC cy a key val ord tk cp efi ela eco ene ldp dp dbl hlv spl mrg u.1 u.2.1 u.2.2.1 u.2.2.2.1 u.2.2.2.2.1 u.2.2.2.2.2.1 llo lhi u.2.2.2.2.2.2)) := by
  refine tq_V.mk (by decide) (Nat.le_of_ble_eq_true rfl) ?_
  intro p e s m args below meth c A C hin hP hK hD hS hA ls hl
  obtain ⟨hx, hb, hml, hown, hrt, hlk, hT⟩ := id C
  have hl : lv_has ls 3 [(0, .ref (a 3)), (1, .int (nI (en)))] := hl
  have hkk := hkey en h1 h2
  have hY := hYR.2.1
  have hlv9 := hY.lev
  have hp7 := p2_le (c := 7) hlv9
  have hpt := hY.1
  have hmn := hY.2
  have hrr : linOf lev ptr (key en) < 256 := by have := linOf_lt hY.1 (key en); omega
  refine lv_aload_n hx hb dX1_insert_0 rfl (lv_at hl 0 rfl) ?_
  refine tq_get (C0 := RX1) (T := TX1) (N := 7) (ci := 1) (k := 1) C gX1 inX1 rfl (by decide) rfl fl_X1_36 hK hP 3 rfl rfl dX1_insert_1 ?_
  refine lv_aload_n hx hb dX1_insert_4 rfl (lv_at hl 0 rfl) ?_
  refine lv_aload_n hx hb dX1_insert_5 rfl (lv_at hl 0 rfl) ?_
  refine tq_get (C0 := RX1) (T := TX1) (N := 7) (ci := 1) (k := 0) C gX1 inX1 rfl (by decide) rfl fl_X1_27 hK hP 3 rfl rfl dX1_insert_6 ?_
  refine lv_iload_n hx hb dX1_insert_9 rfl (lv_at hl 1 rfl) ?_
  refine tq_callF (va_runV C.fix (As := [.int (nI (en))]) (rest := [.ref (a 3), .ref (a 9)]) (c_X3_keyOf l D cy (a 1) (a 4) (a 5) (a 6) key tk cp en h1 h2) (tq_cV (n := 1) C ml_X1_54 im_X3_keyOf se_X3_keyOf ini_X3 cd_X3_keyOf ⟨by decide, by decide, by decide +kernel⟩ ⟨Nat.le_of_ble_eq_true rfl, Nat.le_of_ble_eq_true rfl⟩) ⟨tq_Pf.blind, va_recv hK hP (ci := 3) (q0 := 1) rfl rfl, tq_preF C hK (hP.sub [1, 4] rfl)⟩ rfl rfl hl.1 rfl (lv_room (Nat.le_of_ble_eq_true rfl)) dX1_insert_10 ⟨Nat.le_of_ble_eq_true rfl, Nat.le_of_ble_eq_true rfl⟩) (fun r10 hr10 => ?_)
  obtain rfl := hr10
  refine tq_callF (va_runV C.fix (As := [.int (nI (key en))]) (rest := [.ref (a 9)]) (c_X1_rowFor l D cy a key val ord tk cp efi ela eco ene ldp dp dbl hlv spl mrg lfi lla lco lne lev ptr llo lhi lsp (key en) hY hkk) (tq_cV (n := 1) C ml_X1_48 im_X1_rowFor se_X1_rowFor ini_X1 cd_X1_rowFor ⟨by decide, by decide, by decide +kernel⟩ ⟨Nat.le_of_ble_eq_true rfl, Nat.le_of_ble_eq_true rfl⟩) ⟨tq_Pf.blind, va_recv hK hP (ci := 1) (q0 := 3) rfl rfl, tq_preF C hK hP⟩ rfl rfl hl.1 rfl (lv_room (Nat.le_of_ble_eq_true rfl)) dX1_insert_13 ⟨Nat.le_of_ble_eq_true rfl, Nat.le_of_ble_eq_true rfl⟩) (fun r13 hr13 => ?_)
  obtain rfl := hr13
  refine lv_iload_n hx hb dX1_insert_16 rfl (lv_at hl 1 rfl) ?_
  refine tq_callV (W3 := fun u => (wC cy a key val ord tk cp efi ela eco ene ldp dp dbl hlv spl mrg u.1 u.2.1 u.2.2.1 u.2.2.2 lev ptr llo lhi lsp)) (wr := [0, 2, 3, 5, 6, 7, 8, 10, 11, 12, 13].filterMap (fun i => (wC cy a key val ord tk cp efi ela eco ene ldp dp dbl hlv spl mrg lfi lla lco lne lev ptr llo lhi lsp)[i]?)) (va_runV C.fix (As := [.int (nI (linOf lev ptr (key en))), .int (nI (en))]) (rest := []) ((c_X2_append l D cy (a 9) (a 14) (a 15) (a 16) (a 17) (a 1) (a 4) (a 5) (a 6) lfi lla lco lne key tk cp (linOf lev ptr (key en)) en rows hYR.1 hrr h1 h2 (fun r hr hm => hnU (hYR.2.2.2 r hr en hm))) s.heap.size) (tq_cV (n := 2) C ml_X1_59 im_X2_append se_X2_append ini_X2 cd_X2_append ⟨by decide, by decide, by decide +kernel⟩ ⟨Nat.le_of_ble_eq_true rfl, Nat.le_of_ble_eq_true rfl⟩) ⟨tq_Pc.blind, va_recv hK hP (ci := 2) (q0 := 9) rfl rfl, tq_preC C hK (hP.sub [9, 14, 15, 16, 17, 1, 4] rfl) (hD.sub [9, 14, 15, 16, 17, 1, 4] (by decide) rfl)⟩ rfl rfl hl.1 rfl (lv_room (Nat.le_of_ble_eq_true rfl)) dX1_insert_17 ⟨Nat.le_of_ble_eq_true rfl, Nat.le_of_ble_eq_true rfl⟩) hP hD hS hA [9, 14, 15, 16, 17, 1, 4] [0, 2, 3, 5, 6, 7, 8, 10, 11, 12, 13] [0, 16, 1, 2, 17, 3, 4, 5, 6, 11, 7, 8, 9, 10, 12, 13, 14, 15] rfl rfl (by decide) (by decide) (by decide) (fun _ => rfl) (fun u17 H locs hr17 hP hD hS => ?_)
  obtain ⟨lfi2, lla2, lco2, lne2⟩ := u17
  try dsimp only at hr17
  have hP : va_P D vwCl (wC cy a key val ord tk cp efi ela eco ene ldp dp dbl hlv spl mrg lfi2 lla2 lco2 lne2 lev ptr llo lhi lsp) H := hP
  have hD : va_D A (wC cy a key val ord tk cp efi ela eco ene ldp dp dbl hlv spl mrg lfi2 lla2 lco2 lne2 lev ptr llo lhi lsp) := hD
  have hYa := hYR.add hr17.1 hU1 hU2
  refine lv_aload_n hx hb dX1_insert_20 rfl (lv_at hl 0 rfl) ?_
  refine tq_callF (va_runV C.fix (As := []) (rest := []) (c_X1_countBuckets l D cy a key val ord tk cp efi ela eco ene ldp dp dbl hlv spl mrg lfi2 lla2 lco2 lne2 lev ptr llo lhi lsp hY) (tq_cV (n := 0) C ml_X1_63 im_X1_countBuckets se_X1_countBuckets ini_X1 cd_X1_countBuckets ⟨by decide, by decide, by decide +kernel⟩ ⟨Nat.le_of_ble_eq_true rfl, Nat.le_of_ble_eq_true rfl⟩) ⟨tq_Pf.blind, va_recv hK hP (ci := 1) (q0 := 3) rfl rfl, tq_preF C hK hP⟩ rfl rfl hl.1 rfl (lv_room (Nat.le_of_ble_eq_true rfl)) dX1_insert_21 ⟨Nat.le_of_ble_eq_true rfl, Nat.le_of_ble_eq_true rfl⟩) (fun r21 hr21 => ?_)
  obtain rfl := hr21
  refine lv_istore_n (lv' := [(2, .int (nI (2 ^ lev + ptr))), (0, .ref (a 3)), (1, .int (nI (en)))]) hx hb dX1_insert_24 rfl hl (by decide) rfl (fun ls hl => ?_)
  suffices hlp25 : ∀ (n25 : Nat) (k : Nat) (rows1 : Nat → List Nat) (lfi1 : Nat → Nat) (lla1 : Nat → Nat) (lco1 : Nat → Nat) (lne1 : Nat → Nat) (lev1 : Nat) (ptr1 : Nat) (lsp1 : Int32), k < n25 → (241 ≤ k + (2 ^ lev1 + ptr1)) → (YR key lev1 ptr1 lfi1 lla1 lco1 lne1 rows1 (L ++ [key en]) US2) → (lS cp lhi tk k (lev1, ptr1, lsp1) = lS cp lhi tk 241 (lev, ptr, lsp)) → ∀ (H : Heap) (locs : List Loc), va_P D vwCl (wC cy a key val ord tk cp efi ela eco ene ldp dp dbl hlv spl mrg lfi1 lla1 lco1 lne1 lev1 ptr1 llo lhi lsp1) H → va_D A (wC cy a key val ord tk cp efi ela eco ene ldp dp dbl hlv spl mrg lfi1 lla1 lco1 lne1 lev1 ptr1 llo lhi lsp1) → va_S A s.heap H locs → ∀ ls : Array Slot, lv_has ls 3 [(0, .ref (a 3)), (1, .int (nI (en))), (2, .int (nI (2 ^ lev1 + ptr1)))] → W p l e ({ frames := 4, cells := 0, slots := 0, locals := 91 } : Room) s m args below meth c H locs (0 + 0) (0 + 0) (MQ below (va_Qv (S := (Nat → Nat) × (Nat → Nat) × (Nat → Nat) × (Nat → Nat) × Nat × Nat × Int32) (fun u => (∃ rows2, YR key u.2.2.2.2.1 u.2.2.2.2.2.1 u.1 u.2.1 u.2.2.1 u.2.2.2.1 rows2 (L ++ [key en]) US2) ∧ (u.2.2.2.2.1, u.2.2.2.2.2.1, u.2.2.2.2.2.2) = lS cp lhi tk 241 (lev, ptr, lsp)) (tq_B D A (fun u => (wC cy a key val ord tk cp efi ela eco ene ldp dp dbl hlv spl mrg u.1 u.2.1 u.2.2.1 u.2.2.2.1 u.2.2.2.2.1 u.2.2.2.2.2.1 llo lhi u.2.2.2.2.2.2))) A) args s 0 0 A) (F0 m 25 ls []) from
    hlp25 242 241 _ lfi2 lla2 lco2 lne2 lev ptr lsp (by omega) (by omega) (hYa) (rfl) _ _ hP hD hS _ (lv_sub hl [1, 2, 0] rfl)
  intro n25
  induction n25 with
  | zero => intro k rows1 lfi1 lla1 lco1 lne1 lev1 ptr1 lsp1 hf; exact absurd hf (Nat.not_lt_zero _)
  | succ n25 ih25 =>
    intro k rows1 lfi1 lla1 lco1 lne1 lev1 ptr1 lsp1 hf25 hk hX1 hres H locs hP hD hS ls hl
    have hY1 := hX1.2.1
    have hlv91 := hY1.lev
    have hp71 := p2_le (c := 7) hlv91
    have hpt1 := hY1.1
    have hmn1 := hY1.2
    have hf1 := fa_le (m := 2 ^ lev1 + ptr1) hh2 (by omega) hcp2
    have hf2 := fa_ge (m := 2 ^ lev1 + ptr1) (hi := lhi) hh1 hcp1
    refine lv_iload_n hx hb dX1_insert_25 rfl (lv_at hl 2 rfl) ?_
    refine lv_sipush (v := nI 256) hx hb dX1_insert_26 (by decide) ?_
    refine tq_icmp_ge (tgt := 64) C (by omega) (by omega) dX1_insert_29 (by decide) (fun h29 => ?_) (fun h29 => ?_)
    · omega
    · refine lv_bipush (v := nI 100) hx hb dX1_insert_32 (by decide) ?_
      refine lv_aload_n hx hb dX1_insert_34 rfl (lv_at hl 0 rfl) ?_
      refine tq_get (C0 := RX1) (T := TX1) (N := 7) (ci := 1) (k := 0) C gX1 inX1 rfl (by decide) rfl fl_X1_27 hK hP 3 rfl rfl dX1_insert_35 ?_
      refine tq_getN (C0 := RX3) (T := TX3) (N := 5) (ci := 3) (k := 3) C gX3 inX3 rfl (by decide) rfl fn_X1_67 hK hP 1 rfl rfl dX1_insert_38 ?_
      refine tq_imul C dX1_insert_41 ?_
      refine lv_aload_n hx hb dX1_insert_42 rfl (lv_at hl 0 rfl) ?_
      refine lv_aload_n hx hb dX1_insert_43 rfl (lv_at hl 0 rfl) ?_
      refine tq_get (C0 := RX1) (T := TX1) (N := 7) (ci := 1) (k := 5) C gX1 inX1 rfl (by decide) rfl fl_X1_21 hK hP 3 rfl rfl dX1_insert_44 ?_
      refine lv_iload_n hx hb dX1_insert_47 rfl (lv_at hl 2 rfl) ?_
      refine tq_callF (va_runV C.fix (As := [.int (nI (lhi)), .int (nI (2 ^ lev1 + ptr1))]) (rest := [.int (nI (100 * tk))]) (c_X1_fullAt l D cy a key val ord tk cp efi ela eco ene ldp dp dbl hlv spl mrg lfi1 lla1 lco1 lne1 lev1 ptr1 llo lhi lsp1 lhi (2 ^ lev1 + ptr1)) (tq_cV (n := 2) C ml_X1_70 im_X1_fullAt se_X1_fullAt ini_X1 cd_X1_fullAt ⟨by decide, by decide, by decide +kernel⟩ ⟨Nat.le_of_ble_eq_true rfl, Nat.le_of_ble_eq_true rfl⟩) ⟨tq_Pf.blind, va_recv hK hP (ci := 1) (q0 := 3) rfl rfl, tq_preF C hK hP⟩ rfl rfl hl.1 rfl (lv_room (Nat.le_of_ble_eq_true rfl)) dX1_insert_48 ⟨Nat.le_of_ble_eq_true rfl, Nat.le_of_ble_eq_true rfl⟩) (fun r48 hr48 => ?_)
      obtain rfl := hr48
      refine tq_icmp_le (tgt := 64) C (by omega) (by omega) dX1_insert_51 (by decide) (fun h51 => ?_) (fun h51 => ?_)
      · have hR9 := lS_end hres h51
        exact tq_vret C (lfi1, lla1, lco1, lne1, lev1, ptr1, lsp1) hP hD hS (⟨⟨_, hX1⟩, hR9⟩) (Nat.le_of_ble_eq_true rfl) (Nat.le_of_ble_eq_true rfl) dX1_insert_64
      · refine lv_aload_n hx hb dX1_insert_54 rfl (lv_at hl 0 rfl) ?_
        refine tq_callV (W3 := fun u => (wC cy a key val ord tk cp efi ela eco ene ldp dp dbl hlv spl mrg u.1 u.2.1 u.2.2.1 u.2.2.2.1 u.2.2.2.2.1 u.2.2.2.2.2 llo lhi (lsp1 + nI 1))) (wr := []) (va_runV C.fix (As := []) (rest := []) ((c_X1_splitNext l D cy a key val ord tk cp efi ela eco ene ldp dp dbl hlv spl mrg lfi1 lla1 lco1 lne1 lev1 ptr1 llo lhi lsp1 rows1 (L ++ [key en]) US2 hX1 hkey (by omega)) H.size) (tq_cV (n := 0) C ml_X1_73 im_X1_splitNext se_X1_splitNext ini_X1 cd_X1_splitNext ⟨by decide, by decide, by decide +kernel⟩ ⟨Nat.le_of_ble_eq_true rfl, Nat.le_of_ble_eq_true rfl⟩) ⟨tq_Pc.blind, va_recv hK hP (ci := 1) (q0 := 3) rfl rfl, tq_preC C hK hP hD⟩ rfl rfl hl.1 rfl (lv_room (Nat.le_of_ble_eq_true rfl)) dX1_insert_55 ⟨Nat.le_of_ble_eq_true rfl, Nat.le_of_ble_eq_true rfl⟩) hP hD hS hA [0, 1, 2, 3, 4, 5, 6, 7, 8, 9, 10, 11, 12, 13, 14, 15, 16, 17] [] [0, 1, 2, 3, 4, 5, 6, 7, 8, 9, 10, 11, 12, 13, 14, 15, 16, 17] rfl rfl (by decide) (by decide) (by decide) (fun _ => rfl) (fun u55 H locs hr55 hP hD hS => ?_)
        obtain ⟨lfi3, lla3, lco3, lne3, lev3, ptr3⟩ := u55
        try dsimp only at hr55
        have hP : va_P D vwCl (wC cy a key val ord tk cp efi ela eco ene ldp dp dbl hlv spl mrg lfi3 lla3 lco3 lne3 lev3 ptr3 llo lhi (lsp1 + nI 1)) H := hP
        have hD : va_D A (wC cy a key val ord tk cp efi ela eco ene ldp dp dbl hlv spl mrg lfi3 lla3 lco3 lne3 lev3 ptr3 llo lhi (lsp1 + nI 1)) := hD
        obtain ⟨⟨rows3, hX3⟩, hls3⟩ := hr55
        have hmm : 2 ^ lev3 + ptr3 = 2 ^ lev1 + ptr1 + 1 := by
          have h := lsplit_many (v := lev1) (p := ptr1)
          rw [← hls3] at h; exact h
        refine lv_iinc (v := (nI ((2 ^ lev1 + ptr1) + 1))) (lv' := [(2, .int (nI ((2 ^ lev1 + ptr1) + 1))), (0, .ref (a 3)), (1, .int (nI (en)))]) hx hb dX1_insert_58 hl (k := 2) rfl (tq_inc1 _) (by decide) rfl (fun ls hl => ?_)
        refine lv_goto (tgt := 25) hx hb dX1_insert_61 (by decide) ?_
        rw [← hmm] at hl
        exact ih25 (k - 1) rows3 lfi3 lla3 lco3 lne3 lev3 ptr3 (lsp1 + nI 1) (by omega) (by omega) (hX3) (by have h := lS_go hres (by omega) h51; unfold lstep at h; dsimp only at h; rw [← hls3] at h; exact h) _ _ hP hD hS _ (lv_sub hl [1, 2, 0] rfl)
set_option maxHeartbeats 4000000 in
set_option maxRecDepth 100000 in
theorem c_X1_delete (l : Launch) (D : va_G) (cy : ClassId) (a : Nat → Nat) (key : Nat → Nat) (val : Nat → Nat) (ord : Nat → Nat) (tk : Nat) (cp : Nat) (efi : Nat → Nat) (ela : Nat → Nat) (eco : Nat → Nat) (ene : Nat → Nat) (ldp : Nat → Nat) (dp : Nat) (dbl : Int32) (hlv : Int32) (spl : Int32) (mrg : Int32) (lfi : Nat → Nat) (lla : Nat → Nat) (lco : Nat → Nat) (lne : Nat → Nat) (lev : Nat) (ptr : Nat) (llo : Nat) (lhi : Nat) (lsp : Int32) (en : Nat) (rows : Nat → List Nat) (L : List Nat) (US : Nat → Prop) (hYR : YR key lev ptr lfi lla lco lne rows L US) (hkey : ∀ e, 1 ≤ e → e ≤ 120 → key e < 65536) (US2 : Nat → Prop) (h1 : 1 ≤ en) (h2 : en ≤ 120) (hcp1 : 1 ≤ cp) (hcp2 : cp ≤ 5) (htk : tk ≤ 120) (hlo : llo ≤ 50) (hh1 : 50 ≤ lhi) (hh2 : lhi ≤ 200) (hUen : US en) (hinj : ∀ e f, US e → US f → key e = key f → e = f) (hU : ∀ e, US e → e ≠ en → US2 e) (hin9 : en ∈ rows (linOf lev ptr (key en))) : tq_V (S := (Nat → Nat) × (Nat → Nat) × (Nat → Nat) × (Nat → Nat) × Nat × Nat × Int32) l yX1_delete cX1_delete 3 5 113 0 0 D cy (wC cy a key val ord tk cp efi ela eco ene ldp dp dbl hlv spl mrg lfi lla lco lne lev ptr llo lhi lsp) [.ref (a 3), .int (nI (en))] (fun u => (∃ rows2, YR key u.2.2.2.2.1 u.2.2.2.2.2.1 u.1 u.2.1 u.2.2.1 u.2.2.2.1 rows2 (lB cp llo tk 241 (L.filter (· != key en), lev, ptr, lsp)).1 US2) ∧ (u.2.2.2.2.1, u.2.2.2.2.2.1, u.2.2.2.2.2.2) = (lB cp llo tk 241 (L.filter (· != key en), lev, ptr, lsp)).2) (fun u => (wC cy a key val ord tk cp efi ela eco ene ldp dp dbl hlv spl mrg u.1 u.2.1 u.2.2.1 u.2.2.2.1 u.2.2.2.2.1 u.2.2.2.2.2.1 llo lhi u.2.2.2.2.2.2)) := by
  refine tq_V.mk (by decide) (Nat.le_of_ble_eq_true rfl) ?_
  intro p e s m args below meth c A C hin hP hK hD hS hA ls hl
  obtain ⟨hx, hb, hml, hown, hrt, hlk, hT⟩ := id C
  have hl : lv_has ls 3 [(0, .ref (a 3)), (1, .int (nI (en)))] := hl
  have hkk := hkey en h1 h2
  have hY := hYR.2.1
  have hlv9 := hY.lev
  have hp7 := p2_le (c := 7) hlv9
  have hpt := hY.1
  have hmn := hY.2
  have hrr : linOf lev ptr (key en) < 256 := by have := linOf_lt hY.1 (key en); omega
  obtain ⟨P, Q, hL, hPn, hQn, hff⟩ := hYR.1.split hrr hin9
  refine lv_aload_n hx hb dX1_delete_0 rfl (lv_at hl 0 rfl) ?_
  refine tq_get (C0 := RX1) (T := TX1) (N := 7) (ci := 1) (k := 1) C gX1 inX1 rfl (by decide) rfl fl_X1_36 hK hP 3 rfl rfl dX1_delete_1 ?_
  refine lv_aload_n hx hb dX1_delete_4 rfl (lv_at hl 0 rfl) ?_
  refine lv_aload_n hx hb dX1_delete_5 rfl (lv_at hl 0 rfl) ?_
  refine tq_get (C0 := RX1) (T := TX1) (N := 7) (ci := 1) (k := 0) C gX1 inX1 rfl (by decide) rfl fl_X1_27 hK hP 3 rfl rfl dX1_delete_6 ?_
  refine lv_iload_n hx hb dX1_delete_9 rfl (lv_at hl 1 rfl) ?_
  refine tq_callF (va_runV C.fix (As := [.int (nI (en))]) (rest := [.ref (a 3), .ref (a 9)]) (c_X3_keyOf l D cy (a 1) (a 4) (a 5) (a 6) key tk cp en h1 h2) (tq_cV (n := 1) C ml_X1_54 im_X3_keyOf se_X3_keyOf ini_X3 cd_X3_keyOf ⟨by decide, by decide, by decide +kernel⟩ ⟨Nat.le_of_ble_eq_true rfl, Nat.le_of_ble_eq_true rfl⟩) ⟨tq_Pf.blind, va_recv hK hP (ci := 3) (q0 := 1) rfl rfl, tq_preF C hK (hP.sub [1, 4] rfl)⟩ rfl rfl hl.1 rfl (lv_room (Nat.le_of_ble_eq_true rfl)) dX1_delete_10 ⟨Nat.le_of_ble_eq_true rfl, Nat.le_of_ble_eq_true rfl⟩) (fun r10 hr10 => ?_)
  obtain rfl := hr10
  refine tq_callF (va_runV C.fix (As := [.int (nI (key en))]) (rest := [.ref (a 9)]) (c_X1_rowFor l D cy a key val ord tk cp efi ela eco ene ldp dp dbl hlv spl mrg lfi lla lco lne lev ptr llo lhi lsp (key en) hY hkk) (tq_cV (n := 1) C ml_X1_48 im_X1_rowFor se_X1_rowFor ini_X1 cd_X1_rowFor ⟨by decide, by decide, by decide +kernel⟩ ⟨Nat.le_of_ble_eq_true rfl, Nat.le_of_ble_eq_true rfl⟩) ⟨tq_Pf.blind, va_recv hK hP (ci := 1) (q0 := 3) rfl rfl, tq_preF C hK hP⟩ rfl rfl hl.1 rfl (lv_room (Nat.le_of_ble_eq_true rfl)) dX1_delete_13 ⟨Nat.le_of_ble_eq_true rfl, Nat.le_of_ble_eq_true rfl⟩) (fun r13 hr13 => ?_)
  obtain rfl := hr13
  refine lv_iload_n hx hb dX1_delete_16 rfl (lv_at hl 1 rfl) ?_
  refine tq_callV (W3 := fun u => (wC cy a key val ord tk cp efi ela eco ene ldp dp dbl hlv spl mrg u.1 u.2.1 u.2.2.1 u.2.2.2 lev ptr llo lhi lsp)) (wr := [0, 2, 3, 5, 6, 7, 8, 10, 11, 12, 13].filterMap (fun i => (wC cy a key val ord tk cp efi ela eco ene ldp dp dbl hlv spl mrg lfi lla lco lne lev ptr llo lhi lsp)[i]?)) (va_runV C.fix (As := [.int (nI (linOf lev ptr (key en))), .int (nI (en))]) (rest := []) ((c_X2_unlink l D cy (a 9) (a 14) (a 15) (a 16) (a 17) (a 1) (a 4) (a 5) (a 6) lfi lla lco lne key tk cp (linOf lev ptr (key en)) en rows hYR.1 hrr h1 h2 P Q hL hPn hQn) s.heap.size) (tq_cV (n := 2) C ml_X1_76 im_X2_unlink se_X2_unlink ini_X2 cd_X2_unlink ⟨by decide, by decide, by decide +kernel⟩ ⟨Nat.le_of_ble_eq_true rfl, Nat.le_of_ble_eq_true rfl⟩) ⟨tq_Pc.blind, va_recv hK hP (ci := 2) (q0 := 9) rfl rfl, tq_preC C hK (hP.sub [9, 14, 15, 16, 17, 1, 4] rfl) (hD.sub [9, 14, 15, 16, 17, 1, 4] (by decide) rfl)⟩ rfl rfl hl.1 rfl (lv_room (Nat.le_of_ble_eq_true rfl)) dX1_delete_17 ⟨Nat.le_of_ble_eq_true rfl, Nat.le_of_ble_eq_true rfl⟩) hP hD hS hA [9, 14, 15, 16, 17, 1, 4] [0, 2, 3, 5, 6, 7, 8, 10, 11, 12, 13] [0, 16, 1, 2, 17, 3, 4, 5, 6, 11, 7, 8, 9, 10, 12, 13, 14, 15] rfl rfl (by decide) (by decide) (by decide) (fun _ => rfl) (fun u17 H locs hr17 hP hD hS => ?_)
  obtain ⟨lfi2, lla2, lco2, lne2⟩ := u17
  try dsimp only at hr17
  have hP : va_P D vwCl (wC cy a key val ord tk cp efi ela eco ene ldp dp dbl hlv spl mrg lfi2 lla2 lco2 lne2 lev ptr llo lhi lsp) H := hP
  have hD : va_D A (wC cy a key val ord tk cp efi ela eco ene ldp dp dbl hlv spl mrg lfi2 lla2 lco2 lne2 lev ptr llo lhi lsp) := hD
  have hYd := hYR.del hr17 hUen hinj hU
  refine lv_aload_n hx hb dX1_delete_20 rfl (lv_at hl 0 rfl) ?_
  refine tq_callF (va_runV C.fix (As := []) (rest := []) (c_X1_countBuckets l D cy a key val ord tk cp efi ela eco ene ldp dp dbl hlv spl mrg lfi2 lla2 lco2 lne2 lev ptr llo lhi lsp hY) (tq_cV (n := 0) C ml_X1_63 im_X1_countBuckets se_X1_countBuckets ini_X1 cd_X1_countBuckets ⟨by decide, by decide, by decide +kernel⟩ ⟨Nat.le_of_ble_eq_true rfl, Nat.le_of_ble_eq_true rfl⟩) ⟨tq_Pf.blind, va_recv hK hP (ci := 1) (q0 := 3) rfl rfl, tq_preF C hK hP⟩ rfl rfl hl.1 rfl (lv_room (Nat.le_of_ble_eq_true rfl)) dX1_delete_21 ⟨Nat.le_of_ble_eq_true rfl, Nat.le_of_ble_eq_true rfl⟩) (fun r21 hr21 => ?_)
  obtain rfl := hr21
  refine lv_istore_n (lv' := [(2, .int (nI (2 ^ lev + ptr))), (0, .ref (a 3)), (1, .int (nI (en)))]) hx hb dX1_delete_24 rfl hl (by decide) rfl (fun ls hl => ?_)
  suffices hlp25 : ∀ (n25 : Nat) (k : Nat) (rows1 : Nat → List Nat) (L1 : List Nat) (lfi1 : Nat → Nat) (lla1 : Nat → Nat) (lco1 : Nat → Nat) (lne1 : Nat → Nat) (lev1 : Nat) (ptr1 : Nat) (lsp1 : Int32), k < n25 → (2 ^ lev1 + ptr1 ≤ k) → (YR key lev1 ptr1 lfi1 lla1 lco1 lne1 rows1 L1 US2) → (lB cp llo tk k (L1, lev1, ptr1, lsp1) = lB cp llo tk 241 (L.filter (· != key en), lev, ptr, lsp)) → ∀ (H : Heap) (locs : List Loc), va_P D vwCl (wC cy a key val ord tk cp efi ela eco ene ldp dp dbl hlv spl mrg lfi1 lla1 lco1 lne1 lev1 ptr1 llo lhi lsp1) H → va_D A (wC cy a key val ord tk cp efi ela eco ene ldp dp dbl hlv spl mrg lfi1 lla1 lco1 lne1 lev1 ptr1 llo lhi lsp1) → va_S A s.heap H locs → ∀ ls : Array Slot, lv_has ls 3 [(0, .ref (a 3)), (1, .int (nI (en))), (2, .int (nI (2 ^ lev1 + ptr1)))] → W p l e ({ frames := 5, cells := 0, slots := 0, locals := 113 } : Room) s m args below meth c H locs (0 + 0) (0 + 0) (MQ below (va_Qv (S := (Nat → Nat) × (Nat → Nat) × (Nat → Nat) × (Nat → Nat) × Nat × Nat × Int32) (fun u => (∃ rows2, YR key u.2.2.2.2.1 u.2.2.2.2.2.1 u.1 u.2.1 u.2.2.1 u.2.2.2.1 rows2 (lB cp llo tk 241 (L.filter (· != key en), lev, ptr, lsp)).1 US2) ∧ (u.2.2.2.2.1, u.2.2.2.2.2.1, u.2.2.2.2.2.2) = (lB cp llo tk 241 (L.filter (· != key en), lev, ptr, lsp)).2) (tq_B D A (fun u => (wC cy a key val ord tk cp efi ela eco ene ldp dp dbl hlv spl mrg u.1 u.2.1 u.2.2.1 u.2.2.2.1 u.2.2.2.2.1 u.2.2.2.2.2.1 llo lhi u.2.2.2.2.2.2))) A) args s 0 0 A) (F0 m 25 ls []) from
    hlp25 242 241 _ _ lfi2 lla2 lco2 lne2 lev ptr lsp (by omega) (by omega) (hYd) (rfl) _ _ hP hD hS _ (lv_sub hl [1, 2, 0] rfl)
  intro n25
  induction n25 with
  | zero => intro k rows1 L1 lfi1 lla1 lco1 lne1 lev1 ptr1 lsp1 hf; exact absurd hf (Nat.not_lt_zero _)
  | succ n25 ih25 =>
    intro k rows1 L1 lfi1 lla1 lco1 lne1 lev1 ptr1 lsp1 hf25 hk hX1 hres H locs hP hD hS ls hl
    have hY1 := hX1.2.1
    have hlv91 := hY1.lev
    have hp71 := p2_le (c := 7) hlv91
    have hpt1 := hY1.1
    have hmn1 := hY1.2
    have hf1 := fa_le (m := 2 ^ lev1 + ptr1) (hi := llo) (by omega) (by omega) hcp2
    refine lv_iload_n hx hb dX1_delete_25 rfl (lv_at hl 2 rfl) ?_
    refine lv_iconst (v := nI 1) hx hb dX1_delete_26 (by decide) ?_
    refine tq_icmp_le (tgt := 62) C (by omega) (by omega) dX1_delete_27 (by decide) (fun h27 => ?_) (fun h27 => ?_)
    · have hR9 := lB_end hres (Or.inl h27)
      exact tq_vret C (lfi1, lla1, lco1, lne1, lev1, ptr1, lsp1) hP hD hS (⟨⟨rows1, by rw [← hR9]; exact hX1⟩, by rw [← hR9]⟩) (Nat.le_of_ble_eq_true rfl) (Nat.le_of_ble_eq_true rfl) dX1_delete_62
    · refine lv_bipush (v := nI 100) hx hb dX1_delete_30 (by decide) ?_
      refine lv_aload_n hx hb dX1_delete_32 rfl (lv_at hl 0 rfl) ?_
      refine tq_get (C0 := RX1) (T := TX1) (N := 7) (ci := 1) (k := 0) C gX1 inX1 rfl (by decide) rfl fl_X1_27 hK hP 3 rfl rfl dX1_delete_33 ?_
      refine tq_getN (C0 := RX3) (T := TX3) (N := 5) (ci := 3) (k := 3) C gX3 inX3 rfl (by decide) rfl fn_X1_67 hK hP 1 rfl rfl dX1_delete_36 ?_
      refine tq_imul C dX1_delete_39 ?_
      refine lv_aload_n hx hb dX1_delete_40 rfl (lv_at hl 0 rfl) ?_
      refine lv_aload_n hx hb dX1_delete_41 rfl (lv_at hl 0 rfl) ?_
      refine tq_get (C0 := RX1) (T := TX1) (N := 7) (ci := 1) (k := 4) C gX1 inX1 rfl (by decide) rfl fl_X1_18 hK hP 3 rfl rfl dX1_delete_42 ?_
      refine lv_iload_n hx hb dX1_delete_45 rfl (lv_at hl 2 rfl) ?_
      refine tq_callF (va_runV C.fix (As := [.int (nI (llo)), .int (nI (2 ^ lev1 + ptr1))]) (rest := [.int (nI (100 * tk))]) (c_X1_fullAt l D cy a key val ord tk cp efi ela eco ene ldp dp dbl hlv spl mrg lfi1 lla1 lco1 lne1 lev1 ptr1 llo lhi lsp1 llo (2 ^ lev1 + ptr1)) (tq_cV (n := 2) C ml_X1_70 im_X1_fullAt se_X1_fullAt ini_X1 cd_X1_fullAt ⟨by decide, by decide, by decide +kernel⟩ ⟨Nat.le_of_ble_eq_true rfl, Nat.le_of_ble_eq_true rfl⟩) ⟨tq_Pf.blind, va_recv hK hP (ci := 1) (q0 := 3) rfl rfl, tq_preF C hK hP⟩ rfl rfl hl.1 rfl (lv_room (Nat.le_of_ble_eq_true rfl)) dX1_delete_46 ⟨Nat.le_of_ble_eq_true rfl, Nat.le_of_ble_eq_true rfl⟩) (fun r46 hr46 => ?_)
      obtain rfl := hr46
      refine tq_icmp_ge (tgt := 62) C (by omega) (by omega) dX1_delete_49 (by decide) (fun h49 => ?_) (fun h49 => ?_)
      · have hR9 := lB_end hres (Or.inr h49)
        exact tq_vret C (lfi1, lla1, lco1, lne1, lev1, ptr1, lsp1) hP hD hS (⟨⟨rows1, by rw [← hR9]; exact hX1⟩, by rw [← hR9]⟩) (Nat.le_of_ble_eq_true rfl) (Nat.le_of_ble_eq_true rfl) dX1_delete_62
      · refine lv_aload_n hx hb dX1_delete_52 rfl (lv_at hl 0 rfl) ?_
        refine tq_callV (W3 := fun u => (wC cy a key val ord tk cp efi ela eco ene ldp dp dbl hlv spl mrg u.1 u.2.1 u.2.2.1 u.2.2.2.1 u.2.2.2.2.1 u.2.2.2.2.2 llo lhi (lsp1 - nI 1))) (wr := []) (va_runV C.fix (As := []) (rest := []) ((c_X1_takeBackSplit l D cy a key val ord tk cp efi ela eco ene ldp dp dbl hlv spl mrg lfi1 lla1 lco1 lne1 lev1 ptr1 llo lhi lsp1 rows1 L1 US2 hX1 hkey h27) H.size) (tq_cV (n := 0) C ml_X1_79 im_X1_takeBackSplit se_X1_takeBackSplit ini_X1 cd_X1_takeBackSplit ⟨by decide, by decide, by decide +kernel⟩ ⟨Nat.le_of_ble_eq_true rfl, Nat.le_of_ble_eq_true rfl⟩) ⟨tq_Pc.blind, va_recv hK hP (ci := 1) (q0 := 3) rfl rfl, tq_preC C hK hP hD⟩ rfl rfl hl.1 rfl (lv_room (Nat.le_of_ble_eq_true rfl)) dX1_delete_53 ⟨Nat.le_of_ble_eq_true rfl, Nat.le_of_ble_eq_true rfl⟩) hP hD hS hA [0, 1, 2, 3, 4, 5, 6, 7, 8, 9, 10, 11, 12, 13, 14, 15, 16, 17] [] [0, 1, 2, 3, 4, 5, 6, 7, 8, 9, 10, 11, 12, 13, 14, 15, 16, 17] rfl rfl (by decide) (by decide) (by decide) (fun _ => rfl) (fun u53 H locs hr53 hP hD hS => ?_)
        obtain ⟨lfi3, lla3, lco3, lne3, lev3, ptr3⟩ := u53
        try dsimp only at hr53
        have hP : va_P D vwCl (wC cy a key val ord tk cp efi ela eco ene ldp dp dbl hlv spl mrg lfi3 lla3 lco3 lne3 lev3 ptr3 llo lhi (lsp1 - nI 1)) H := hP
        have hD : va_D A (wC cy a key val ord tk cp efi ela eco ene ldp dp dbl hlv spl mrg lfi3 lla3 lco3 lne3 lev3 ptr3 llo lhi (lsp1 - nI 1)) := hD
        obtain ⟨⟨rows3, hX3⟩, hls3⟩ := hr53
        have hmm : 2 ^ lev3 + ptr3 = 2 ^ lev1 + ptr1 - 1 := by
          have h := (lback_split hY1 h27).2.2
          rw [← hls3] at h; dsimp only at h; omega
        refine lv_iinc (v := (nI ((2 ^ lev1 + ptr1) - 1))) (lv' := [(2, .int (nI ((2 ^ lev1 + ptr1) - 1))), (0, .ref (a 3)), (1, .int (nI (en)))]) hx hb dX1_delete_56 hl (k := 2) rfl (tq_dec (by omega)) (by decide) rfl (fun ls hl => ?_)
        refine lv_goto (tgt := 25) hx hb dX1_delete_59 (by decide) ?_
        rw [← hmm] at hl
        exact ih25 (k - 1) rows3 (mvL L1 lev1 ptr1 (2 ^ lev1 + ptr1 - 1)) lfi3 lla3 lco3 lne3 lev3 ptr3 (lsp1 - nI 1) (by omega) (by omega) (hX3) (by have h := lB_go hres (by omega) h27 h49; unfold bstep at h; dsimp only at h; rw [← hls3] at h; exact h) _ _ hP hD hS _ (lv_sub hl [1, 2, 0] rfl)
end
section
/-! the store, and both tables, as one value -/
abbrev AS : Type := (List (Nat × Nat) × Nat × Nat × Nat) × ((Nat → Nat) × Nat × List Nat × Int32 × Int32 × Int32 × Int32) × (List Nat × Nat × Nat × Int32)
def insS (S : List (Nat × Nat)) (k v : Nat) : List (Nat × Nat) := S.filter (fun q => decide (q.1 < k)) ++ (k, v) :: S.filter (fun q => decide (k < q.1))
def repS (S : List (Nat × Nat)) (k v : Nat) : List (Nat × Nat) := S.map (fun q => if q.1 = k then (k, v) else q)
def remS (S : List (Nat × Nat)) (k : Nat) : List (Nat × Nat) := S.filter (fun q => q.1 != k)
/-- a new key is put -/
def aadd (A : AS) (k v : Nat) : AS :=
  ((insS A.1.1 k v, A.1.2), ((pS A.1.2.1 A.2.1.2.2.1 (hs k % 256) 9 (A.2.1.1, A.2.1.2.1, A.2.1.2.2.2.1, A.2.1.2.2.2.2.2.1)).1, (pS A.1.2.1 A.2.1.2.2.1 (hs k % 256) 9 (A.2.1.1, A.2.1.2.1, A.2.1.2.2.2.1, A.2.1.2.2.2.2.2.1)).2.1, A.2.1.2.2.1 ++ [k],
    (pS A.1.2.1 A.2.1.2.2.1 (hs k % 256) 9 (A.2.1.1, A.2.1.2.1, A.2.1.2.2.2.1, A.2.1.2.2.2.2.2.1)).2.2.1, A.2.1.2.2.2.2.1, (pS A.1.2.1 A.2.1.2.2.1 (hs k % 256) 9 (A.2.1.1, A.2.1.2.1, A.2.1.2.2.2.1, A.2.1.2.2.2.2.2.1)).2.2.2, A.2.1.2.2.2.2.2.2),
    (A.2.2.1 ++ [k], lS A.1.2.1 A.1.2.2.2 (A.1.1.length + 1) 241 (A.2.2.2.1, A.2.2.2.2.1, A.2.2.2.2.2)))
/-- a key is removed -/
def adel (A : AS) (k : Nat) : AS :=
  ((remS A.1.1 k, A.1.2), ((mS A.1.2.1 (hs k % 256) 9 (A.2.1.1, A.2.1.2.2.1.filter (· != k), A.2.1.2.2.2.2.2.2)).1, mx (mS A.1.2.1 (hs k % 256) 9 (A.2.1.1, A.2.1.2.2.1.filter (· != k), A.2.1.2.2.2.2.2.2)).1 256,
    (mS A.1.2.1 (hs k % 256) 9 (A.2.1.1, A.2.1.2.2.1.filter (· != k), A.2.1.2.2.2.2.2.2)).2.1, A.2.1.2.2.2.1, A.2.1.2.2.2.2.1 + nI (A.2.1.2.1 - mx (mS A.1.2.1 (hs k % 256) 9 (A.2.1.1, A.2.1.2.2.1.filter (· != k), A.2.1.2.2.2.2.2.2)).1 256), A.2.1.2.2.2.2.2.1,
    (mS A.1.2.1 (hs k % 256) 9 (A.2.1.1, A.2.1.2.2.1.filter (· != k), A.2.1.2.2.2.2.2.2)).2.2),
    lB A.1.2.1 A.1.2.2.1 (A.1.1.length - 1) 241 (A.2.2.1.filter (· != k), A.2.2.2.1, A.2.2.2.2.1, A.2.2.2.2.2))
/-- everything is taken out; the capacity is to be c -/
def aclr (A : AS) (c : Nat) : AS := (([], c, A.1.2.2), (fun _ => 0, 0, [], A.2.1.2.2.2), ([], 0, 0, A.2.2.2.2.2))
def areb (A : AS) (c : Nat) : AS := A.1.1.foldl (fun B q => aadd B q.1 q.2) (aclr A c)
def SS (S : List (Nat × Nat)) : Prop := S.Pairwise (fun a b => a.1 < b.1)
theorem SS_ext : ∀ {S T : List (Nat × Nat)}, SS S → SS T → (∀ q, q ∈ S ↔ q ∈ T) → S = T
  | [], [], _, _, _ => rfl
  | [], b :: T, _, _, h => absurd ((h b).mpr List.mem_cons_self) List.not_mem_nil
  | a :: S, [], _, _, h => absurd ((h a).mp List.mem_cons_self) List.not_mem_nil
  | a :: S, b :: T, hS, hT, h => by
    obtain ⟨h1, h2⟩ := List.pairwise_cons.mp hS
    obtain ⟨h3, h4⟩ := List.pairwise_cons.mp hT
    have hab : a = b := by
      rcases List.mem_cons.mp ((h a).mp List.mem_cons_self) with q | q
      · exact q
      · rcases List.mem_cons.mp ((h b).mpr List.mem_cons_self) with q2 | q2
        · exact q2.symm
        · have x1 := h3 a q
          have x2 := h1 b q2
          omega
    subst hab
    have : S = T := SS_ext h2 h4 (fun q => by
      constructor
      · intro hq
        rcases List.mem_cons.mp ((h q).mp (List.mem_cons_of_mem _ hq)) with z | z
        · have := h1 q hq; rw [z] at this; omega
        · exact z
      · intro hq
        rcases List.mem_cons.mp ((h q).mpr (List.mem_cons_of_mem _ hq)) with z | z
        · have := h3 q hq; rw [z] at this; omega
        · exact z)
    rw [this]
theorem insS_mem {S : List (Nat × Nat)} {k v : Nat} (h : ∀ q ∈ S, q.1 ≠ k) (q : Nat × Nat) : q ∈ insS S k v ↔ q = (k, v) ∨ q ∈ S := by
  unfold insS
  rw [List.mem_append, List.mem_cons, List.mem_filter, List.mem_filter, decide_eq_true_eq, decide_eq_true_eq]
  constructor
  · rintro (⟨a, -⟩ | a | ⟨a, -⟩)
    · exact Or.inr a
    · exact Or.inl a
    · exact Or.inr a
  · rintro (a | a)
    · exact Or.inr (Or.inl a)
    · have := h q a
      rcases Nat.lt_or_gt_of_ne this with z | z
      · exact Or.inl ⟨a, z⟩
      · exact Or.inr (Or.inr ⟨a, z⟩)
theorem insS_sorted {S : List (Nat × Nat)} {k v : Nat} (h : SS S) : SS (insS S k v) := by
  unfold insS SS
  rw [List.pairwise_append, List.pairwise_cons]
  refine ⟨h.filter _, ⟨fun a ha => ?_, h.filter _⟩, fun a ha b hb => ?_⟩
  · have := (List.mem_filter.mp ha).2
    simpa using this
  · have h1 : a.1 < k := by simpa using (List.mem_filter.mp ha).2
    rcases List.mem_cons.mp hb with rfl | hb
    · exact h1
    · have h2 : k < b.1 := by simpa using (List.mem_filter.mp hb).2
      omega
/-- the store's list -/
def stl (key val ord : Nat → Nat) (tk : Nat) : List (Nat × Nat) := (List.range tk).map (fun i => (key (ord i), val (ord i)))
theorem stl_mem {key val ord : Nat → Nat} {tk : Nat} {q : Nat × Nat} : q ∈ stl key val ord tk ↔ ∃ i, i < tk ∧ (key (ord i), val (ord i)) = q := by
  unfold stl
  rw [List.mem_map]
  constructor
  · rintro ⟨i, hi, e⟩; exact ⟨i, List.mem_range.mp hi, e⟩
  · rintro ⟨i, hi, e⟩; exact ⟨i, List.mem_range.mpr hi, e⟩
theorem stl_len {key val ord : Nat → Nat} {tk : Nat} : (stl key val ord tk).length = tk := by simp [stl]
theorem stl_sorted {key val ord : Nat → Nat} {tk : Nat} (h : ∀ i j, i < j → j < tk → key (ord i) < key (ord j)) : SS (stl key val ord tk) := by
  unfold SS stl
  rw [List.pairwise_map, List.pairwise_iff_getElem]
  intro i j hi hj hij
  simp only [List.getElem_range]
  exact h i j hij (by simpa using hj)
def US (ord : Nat → Nat) (tk e : Nat) : Prop := ∃ i, i < tk ∧ ord i = e
theorem SO.inj {key val ord : Nat → Nat} {tk : Nat} (h : SO key val ord tk) {i j : Nat} (hi : i < tk) (hj : j < tk) (e : key (ord i) = key (ord j)) : i = j := by
  rcases Nat.lt_trichotomy i j with q | q | q
  · have := h.2.2.2.1 i j q hj; omega
  · exact q
  · have := h.2.2.2.1 j i q hi; omega
theorem SO.injU {key val ord : Nat → Nat} {tk : Nat} (h : SO key val ord tk) : ∀ e f, US ord tk e → US ord tk f → key e = key f → e = f := by
  rintro e f ⟨i, hi, rfl⟩ ⟨j, hj, rfl⟩ z
  rw [h.inj hi hj z]
theorem SO.keyb {key val ord : Nat → Nat} {tk : Nat} (h : SO key val ord tk) : ∀ e, 1 ≤ e → e ≤ 120 → key e < 65536 := fun e _ _ => (h.2.2.2.2 e).1
/-- an entry has been taken for a new key -/
theorem SO.take {key val ord : Nat → Nat} {tk k v : Nat} (h : SO key val ord tk) (htk : tk < 120) (hk : k < 65536) (hv : v < 1000000) (hnew : ∀ i, i < tk → key (ord i) ≠ k) {o2 : Nat → Nat} {pl : Nat} (h0 : pl ≤ tk) (h1 : ∀ i, i < pl → o2 i = ord i ∧ key (ord i) < k) (h2 : o2 pl = ord tk)
    (h3 : ∀ i, pl ≤ i → i < tk → o2 (i + 1) = ord i ∧ k < key (ord i)) (h4 : ∀ i, tk < i → o2 i = ord i) :
    SO (va_up key (ord tk) k) (va_up val (ord tk) v) o2 (tk + 1) ∧ stl (va_up key (ord tk) k) (va_up val (ord tk) v) o2 (tk + 1) = insS (stl key val ord tk) k v ∧ (∀ e, US ord tk e → US o2 (tk + 1) e) ∧ US o2 (tk + 1) (ord tk) ∧ ¬ US ord tk (ord tk) ∧ (∀ e, US ord tk e → va_up key (ord tk) k e = key e) := by
  have hne : ∀ i, i < tk → ord i ≠ ord tk := fun i hi z => by have := h.2.2.1 i tk (by omega) htk z; omega
  -- each place of o2
  have cases9 : ∀ i, i < 120 → (i < pl ∧ o2 i = ord i) ∨ (i = pl ∧ o2 i = ord tk) ∨ (pl < i ∧ i ≤ tk ∧ o2 i = ord (i - 1)) ∨ (tk < i ∧ o2 i = ord i) := fun i hi => by
    rcases Nat.lt_trichotomy i pl with q | q | q
    · exact Or.inl ⟨q, (h1 i q).1⟩
    · exact Or.inr (Or.inl ⟨q, by rw [q, h2]⟩)
    · rcases Nat.lt_or_ge tk i with q2 | q2
      · exact Or.inr (Or.inr (Or.inr ⟨q2, h4 i q2⟩))
      · have := (h3 (i - 1) (by omega) (by omega)).1
        rw [Nat.sub_add_cancel (by omega)] at this
        exact Or.inr (Or.inr (Or.inl ⟨q, q2, this⟩))
  have hkey : ∀ i, i < tk → va_up key (ord tk) k (ord i) = key (ord i) := fun i hi => up_n _ _ (hne i hi)
  have hval : ∀ i, i < tk → va_up val (ord tk) v (ord i) = val (ord i) := fun i hi => up_n _ _ (hne i hi)
  have hmem : ∀ e, US ord tk e → US o2 (tk + 1) e := by
    rintro e ⟨i, hi, rfl⟩
    rcases Nat.lt_or_ge i pl with q | q
    · exact ⟨i, by omega, (h1 i q).1⟩
    · exact ⟨i + 1, by omega, (h3 i q hi).1⟩
  have hSO : SO (va_up key (ord tk) k) (va_up val (ord tk) v) o2 (tk + 1) := by
    refine ⟨by omega, fun i hi => ?_, fun i j hi hj e => ?_, fun i j hij hj => ?_, fun e => ?_⟩
    · rcases cases9 i hi with ⟨-, q⟩ | ⟨-, q⟩ | ⟨-, -, q⟩ | ⟨-, q⟩ <;> rw [q]
      · exact h.2.1 i hi
      · exact h.2.1 tk htk
      · exact h.2.1 (i - 1) (by omega)
      · exact h.2.1 i hi
    · rcases cases9 i hi with ⟨a, q⟩ | ⟨a, q⟩ | ⟨a, a2, q⟩ | ⟨a, q⟩ <;> rcases cases9 j hj with ⟨b, r⟩ | ⟨b, r⟩ | ⟨b, b2, r⟩ | ⟨b, r⟩ <;> rw [q, r] at e <;> have z := h.2.2.1 _ _ (by omega) (by omega) e <;> omega
    · rcases cases9 i (by omega) with ⟨a, q⟩ | ⟨a, q⟩ | ⟨a, a2, q⟩ | ⟨a, q⟩ <;> rcases cases9 j (by omega) with ⟨b, r⟩ | ⟨b, r⟩ | ⟨b, b2, r⟩ | ⟨b, r⟩ <;> first | omega | (rw [q, r]; first | (rw [hkey _ (by omega), hkey _ (by omega)]; exact h.2.2.2.1 _ _ (by omega) (by omega)) | (rw [hkey _ (by omega), up_s]; exact (h1 _ a).2) | (rw [up_s, hkey (j - 1) (by omega)]; exact (h3 (j - 1) (by omega) (by omega)).2))
    · constructor
      · by_cases z : e = ord tk
        · rw [z, up_s]; exact hk
        · rw [up_n _ _ z]; exact (h.2.2.2.2 e).1
      · by_cases z : e = ord tk
        · rw [z, up_s]; exact hv
        · rw [up_n _ _ z]; exact (h.2.2.2.2 e).2
  refine ⟨hSO, ?_, hmem, ⟨pl, by omega, h2⟩, ?_, ?_⟩
  · refine SS_ext (stl_sorted hSO.2.2.2.1) (insS_sorted (stl_sorted h.2.2.2.1)) (fun q => ?_)
    rw [insS_mem (fun q hq => by
      obtain ⟨i, hi, rfl⟩ := stl_mem.mp hq
      exact hnew i hi), stl_mem, stl_mem]
    constructor
    · rintro ⟨i, hi, rfl⟩
      rcases cases9 i (by omega) with ⟨a, q⟩ | ⟨a, q⟩ | ⟨a, a2, q⟩ | ⟨a, q⟩
      · exact Or.inr ⟨i, by omega, by rw [q, hkey _ (by omega), hval _ (by omega)]⟩
      · exact Or.inl (by rw [q, up_s, up_s])
      · exact Or.inr ⟨i - 1, by omega, by rw [q, hkey _ (by omega), hval _ (by omega)]⟩
      · omega
    · rintro (rfl | ⟨i, hi, rfl⟩)
      · exact ⟨pl, by omega, by rw [h2, up_s, up_s]⟩
      · obtain ⟨j, hj, e⟩ := hmem (ord i) ⟨i, hi, rfl⟩
        exact ⟨j, hj, by rw [e, hkey i hi, hval i hi]⟩
  · rintro ⟨i, hi, e⟩
    exact hne i hi e
  · rintro e ⟨i, hi, rfl⟩
    exact hkey i hi
/-- an entry has been given back -/
theorem SO.release {key val ord : Nat → Nat} {tk i0 en : Nat} (h : SO key val ord tk) (hi0 : i0 < tk) (hen : ord i0 = en) {o2 : Nat → Nat} (h1 : ∀ i, i < i0 → o2 i = ord i) (h2 : ∀ i, i0 ≤ i → i < tk - 1 → o2 i = ord (i + 1)) (h3 : o2 (tk - 1) = en) (h4 : ∀ i, tk ≤ i → o2 i = ord i) :
    SO key val o2 (tk - 1) ∧ stl key val o2 (tk - 1) = remS (stl key val ord tk) (key en) ∧ (∀ e, US ord tk e → e ≠ en → US o2 (tk - 1) e) ∧ ∀ i, i < tk - 1 → ∃ j, j < tk ∧ o2 i = ord j ∧ key (ord j) ≠ key en := by
  have htk := h.1
  have cases9 : ∀ i, i < 120 → (i < i0 ∧ o2 i = ord i) ∨ (i0 ≤ i ∧ i < tk - 1 ∧ o2 i = ord (i + 1)) ∨ (i = tk - 1 ∧ o2 i = ord i0) ∨ (tk ≤ i ∧ o2 i = ord i) := fun i hi => by
    rcases Nat.lt_or_ge i i0 with q | q
    · exact Or.inl ⟨q, h1 i q⟩
    · rcases Nat.lt_trichotomy i (tk - 1) with q2 | q2 | q2
      · exact Or.inr (Or.inl ⟨q, q2, h2 i q q2⟩)
      · exact Or.inr (Or.inr (Or.inl ⟨q2, by rw [q2, h3, hen]⟩))
      · exact Or.inr (Or.inr (Or.inr ⟨by omega, h4 i (by omega)⟩))
  have hSO : SO key val o2 (tk - 1) := by
    refine ⟨by omega, fun i hi => ?_, fun i j hi hj e => ?_, fun i j hij hj => ?_, h.2.2.2.2⟩
    · rcases cases9 i hi with ⟨a, q⟩ | ⟨a, a2, q⟩ | ⟨a, q⟩ | ⟨a, q⟩ <;> rw [q]
      · exact h.2.1 i hi
      · exact h.2.1 (i + 1) (by omega)
      · exact h.2.1 i0 (by omega)
      · exact h.2.1 i hi
    · rcases cases9 i hi with ⟨a, q⟩ | ⟨a, a2, q⟩ | ⟨a, q⟩ | ⟨a, q⟩ <;> rcases cases9 j hj with ⟨b, r⟩ | ⟨b, b2, r⟩ | ⟨b, r⟩ | ⟨b, r⟩ <;> rw [q, r] at e <;> have z := h.2.2.1 _ _ (by omega) (by omega) e <;> omega
    · rcases cases9 i (by omega) with ⟨a, q⟩ | ⟨a, a2, q⟩ | ⟨a, q⟩ | ⟨a, q⟩ <;> rcases cases9 j (by omega) with ⟨b, r⟩ | ⟨b, b2, r⟩ | ⟨b, r⟩ | ⟨b, r⟩ <;> first | omega | (rw [q, r]; exact h.2.2.2.1 _ _ (by omega) (by omega))
  have hmem : ∀ e, US ord tk e → e ≠ en → US o2 (tk - 1) e := by
    rintro e ⟨i, hi, rfl⟩ hne
    rcases Nat.lt_trichotomy i i0 with q | q | q
    · exact ⟨i, by omega, h1 i q⟩
    · rw [q] at hne; exact absurd hen hne
    · exact ⟨i - 1, by omega, by rw [h2 (i - 1) (by omega) (by omega), Nat.sub_add_cancel (by omega)]⟩
  have hback : ∀ i, i < tk - 1 → ∃ j, j < tk ∧ o2 i = ord j ∧ key (ord j) ≠ key en := fun i hi => by
    rcases cases9 i (by omega) with ⟨a, q⟩ | ⟨a, a2, q⟩ | ⟨a, q⟩ | ⟨a, q⟩
    · exact ⟨i, by omega, q, fun z => by rw [← hen] at z; have := h.inj (by omega) hi0 z; omega⟩
    · exact ⟨i + 1, by omega, q, fun z => by rw [← hen] at z; have := h.inj (by omega) hi0 z; omega⟩
    · omega
    · omega
  refine ⟨hSO, SS_ext (stl_sorted hSO.2.2.2.1) ((stl_sorted h.2.2.2.1).filter _) (fun q => ?_), hmem, hback⟩
  unfold remS
  rw [List.mem_filter, stl_mem, stl_mem]
  constructor
  · rintro ⟨i, hi, rfl⟩
    obtain ⟨j, hj, e1, e2⟩ := hback i hi
    exact ⟨⟨j, hj, by rw [e1]⟩, by rw [e1]; simpa using e2⟩
  · rintro ⟨⟨i, hi, rfl⟩, z⟩
    have z2 : ord i ≠ en := fun y => by rw [y] at z; simp at z
    obtain ⟨j, hj, e⟩ := hmem (ord i) ⟨i, hi, rfl⟩ z2
    exact ⟨j, hj, by rw [e]⟩
theorem XR.rekey {key key2 ldp : Nat → Nat} {dp : Nat} {efi ela eco ene : Nat → Nat} {rows : Nat → List Nat} {dep : Nat → Nat} {E : List Nat} {U : Nat → Prop} (h : XR key ldp dp efi ela eco ene rows dep E U) (hk : ∀ e, U e → key2 e = key e) : XR key2 ldp dp efi ela eco ene rows dep E U := by
  obtain ⟨a, b, c, d, f, g⟩ := h
  exact ⟨a, b, c, d, fun r hr => by rw [← f r hr]; exact List.map_congr_left (fun e he => hk e (g r hr e he)), g⟩
theorem YR.rekey {key key2 : Nat → Nat} {v p : Nat} {lfi lla lco lne : Nat → Nat} {rows : Nat → List Nat} {L : List Nat} {U : Nat → Prop} (h : YR key v p lfi lla lco lne rows L U) (hk : ∀ e, U e → key2 e = key e) : YR key2 v p lfi lla lco lne rows L U := by
  obtain ⟨a, b, c, d⟩ := h
  exact ⟨a, b, fun r hr => by rw [← c r hr]; exact List.map_congr_left (fun e he => hk e (d r hr e he)), d⟩
end
section

def isVal (x : Int32) : Prop := ∃ v : Nat, v < 1000000 ∧ x = nI v
def arep (A : AS) (k v : Nat) : AS := ((repS A.1.1 k v, A.1.2), A.2)
def mkA (key val ord : Nat → Nat) (tk cp : Nat) (dep : Nat → Nat) (dp : Nat) (E : List Nat) (dbl hlv spl mrg : Int32) (L : List Nat) (lev ptr llo lhi : Nat) (lsp : Int32) : AS := ((stl key val ord tk, cp, llo, lhi), (dep, dp, E, dbl, hlv, spl, mrg), (L, lev, ptr, lsp))
/-- what the class's cells say of both tables -/
def CR (key val ord : Nat → Nat) (tk cp : Nat) (efi ela eco ene ldp : Nat → Nat) (dp : Nat) (lfi lla lco lne : Nat → Nat) (lev ptr llo lhi : Nat) (dep : Nat → Nat) (E L : List Nat) : Prop :=
  SO key val ord tk ∧ (1 ≤ cp ∧ cp ≤ 5) ∧ (llo ≤ 50 ∧ 50 ≤ lhi ∧ lhi ≤ 200) ∧ (∃ rows, XR key ldp dp efi ela eco ene rows dep E (US ord tk)) ∧ (∃ rows, YR key lev ptr lfi lla lco lne rows L (US ord tk)) ∧ ∀ i, i < tk → key (ord i) ∈ E ∧ key (ord i) ∈ L
def getP (S : List (Nat × Nat)) (kx r : Int32) : Prop := ∃ k, k < 65536 ∧ kx = nI k ∧ ((∃ v, (k, v) ∈ S ∧ r = nI v) ∨ ((∀ v, (k, v) ∉ S) ∧ r = -1))
def clB (E : List Nat) (x b : Nat) : List Nat := E.filter (fun k => hs k % 2 ^ b == x % 2 ^ b)
def lnB (L : List Nat) (v p r : Nat) : List Nat := L.filter (fun k => linOf v p k == r)
def prP (B : List Nat) (cap k : Nat) (r : Int32) : Prop := (∃ i, i < B.length ∧ B.getD i 0 = k ∧ (∀ j, j < i → B.getD j 0 ≠ k) ∧ r = nI (1 + i / cap)) ∨ ((∀ j, j < B.length → B.getD j 0 ≠ k) ∧ r = nI (1 + (B.length - 1) / cap))
def nxc (b c : Nat) : Nat := if rv c b + 1 = 2 ^ b then 0 else rv (rv c b + 1) b
theorem so_ext {f g : Nat → Nat} {n m : Nat} (h1 : ∀ i, i < n → f i = g i) (h2 : n ≤ m) (h3 : ∀ i, n ≤ i → i < m → g i = 0) : so f n = so g m := by
  induction m with
  | zero =>
    have : n = 0 := by omega
    subst this; rfl
  | succ m ih =>
    rcases Nat.lt_or_ge m n with q | q
    · have : n = m + 1 := by omega
      subst this
      have h : ∀ k, k ≤ m + 1 → so f k = so g k := by
        intro k
        induction k with
        | zero => intro _; rfl
        | succ k ihk =>
          intro hk
          show so f k + f k = so g k + g k
          rw [ihk (by omega), h1 k (by omega)]
      exact h _ (Nat.le_refl _)
    · show _ = so g m + g m
      rw [h3 m q (by omega), Nat.add_zero]
      exact ih q (fun i a b => h3 i a (by omega))
section CM
variable {key val ord : Nat → Nat} {tk cp : Nat} {efi ela eco ene ldp : Nat → Nat} {dp : Nat} {lfi lla lco lne : Nat → Nat} {lev ptr llo lhi : Nat} {dep : Nat → Nat} {E L : List Nat} {rows : Nat → List Nat}
theorem XR.cls {U : Nat → Prop} (h : XR key ldp dp efi ela eco ene rows dep E U) {x : Nat} (hx : x < 256) : (rows (x % 2 ^ dep x)).map key = clB E x (dep x) := by
  have hg := h.2.1.1
  have hb := h.2.1.2.1 x hx
  rw [h.2.2.2.2.1 _ (m2 (by omega))]
  unfold clB
  refine List.filter_congr (fun k _ => ?_)
  rw [Bool.eq_iff_iff, beq_iff_eq, beq_iff_eq]
  exact h.2.1.row hx
theorem XR.mem {U : Nat → Prop} (h : XR key ldp dp efi ela eco ene rows dep E U) {kx en : Nat} (hm : en ∈ rows (xrow ldp dp kx)) (he : key en = kx) : 1 ≤ en ∧ en ≤ 120 ∧ U en ∧ en ∈ rows (rowOf dep (key en)) ∧ kx ∈ E := by
  have hr : xrow ldp dp kx < 256 := xrow_lt h.2.1.1
  have h1 := (h.1.1 _ hr).2.2.2.2.1 en hm
  refine ⟨h1.1, h1.2, h.2.2.2.2.2 _ hr en hm, by rw [he, ← (h.at kx).1]; exact hm, ?_⟩
  have h2 : kx ∈ (rows (xrow ldp dp kx)).map key := List.mem_map.mpr ⟨en, hm, he⟩
  rw [h.2.2.2.2.1 _ hr] at h2
  exact (List.mem_filter.mp h2).1
theorem XR.nomem {U : Nat → Prop} (h : XR key ldp dp efi ela eco ene rows dep E U) {kx : Nat} (hno : ∀ en, en ∈ rows (xrow ldp dp kx) → key en ≠ kx) : kx ∉ E := by
  have hr : xrow ldp dp kx < 256 := xrow_lt h.2.1.1
  intro hm
  have h2 : kx ∈ (rows (xrow ldp dp kx)).map key := by
    rw [h.2.2.2.2.1 _ hr, (h.at kx).1]
    exact List.mem_filter.mpr ⟨hm, by simp⟩
  obtain ⟨en, h3, h4⟩ := List.mem_map.mp h2
  exact hno en h3 h4
theorem YR.mem {U : Nat → Prop} (h : YR key lev ptr lfi lla lco lne rows L U) {kx en : Nat} (hm : en ∈ rows (linOf lev ptr kx)) (he : key en = kx) : 1 ≤ en ∧ en ≤ 120 ∧ U en := by
  have hr : linOf lev ptr kx < 256 := by have := linOf_lt h.2.1.1 kx; have := h.2.1.2; omega
  have h1 := (h.1.1 _ hr).2.2.2.2.1 en hm
  exact ⟨h1.1, h1.2, h.2.2.2 _ hr en hm⟩
theorem YR.nomem {U : Nat → Prop} (h : YR key lev ptr lfi lla lco lne rows L U) {kx : Nat} (hno : ∀ en, en ∈ rows (linOf lev ptr kx) → key en ≠ kx) : kx ∉ L := by
  have hr : linOf lev ptr kx < 256 := by have := linOf_lt h.2.1.1 kx; have := h.2.1.2; omega
  intro hm
  have h2 : kx ∈ (rows (linOf lev ptr kx)).map key := by
    rw [h.2.2.1 _ hr]
    exact List.mem_filter.mpr ⟨hm, by simp⟩
  obtain ⟨en, h3, h4⟩ := List.mem_map.mp h2
  exact hno en h3 h4
theorem YR.inrow {U : Nat → Prop} (h : YR key lev ptr lfi lla lco lne rows L U) (hinj : ∀ e f, U e → U f → key e = key f → e = f) {en : Nat} (hu : U en) (hm : key en ∈ L) : en ∈ rows (linOf lev ptr (key en)) := by
  have hr : linOf lev ptr (key en) < 256 := by have := linOf_lt h.2.1.1 (key en); have := h.2.1.2; omega
  have h2 : key en ∈ (rows (linOf lev ptr (key en))).map key := by
    rw [h.2.2.1 _ hr]
    exact List.mem_filter.mpr ⟨hm, by simp⟩
  obtain ⟨e, h3, h4⟩ := List.mem_map.mp h2
  rw [hinj e en (h.2.2.2 _ hr e h3) hu h4] at h3
  exact h3
theorem YR.len {U : Nat → Prop} (h : YR key lev ptr lfi lla lco lne rows L U) {r : Nat} (hr : r < 256) : lco r = (lnB L lev ptr r).length ∧ lco r ≤ 120 := by
  unfold lnB
  rw [← h.2.2.1 r hr, List.length_map]
  exact ⟨(h.1.1 r hr).1, by rw [(h.1.1 r hr).1]; exact h.1.len hr⟩
theorem SO.get {en k : Nat} (h : SO key val ord tk) (hu : US ord tk en) (hk : key en = k) (v : Nat) : (k, v) ∈ stl key val ord tk ↔ v = val en := by
  rw [stl_mem]
  constructor
  · rintro ⟨i, hi, e⟩
    have h1 : key (ord i) = k := congrArg Prod.fst e
    have h2 : val (ord i) = v := congrArg Prod.snd e
    have := h.injU (ord i) en ⟨i, hi, rfl⟩ hu (h1.trans hk.symm)
    rw [← h2, this]
  · rintro rfl
    obtain ⟨i, hi, rfl⟩ := hu
    exact ⟨i, hi, by rw [hk]⟩
theorem CR.none (h : CR key val ord tk cp efi ela eco ene ldp dp lfi lla lco lne lev ptr llo lhi dep E L) {k : Nat} (hk : k ∉ E ∨ k ∉ L) (v : Nat) : (k, v) ∉ stl key val ord tk := by
  intro hm
  obtain ⟨i, hi, e⟩ := stl_mem.mp hm
  have h1 : key (ord i) = k := congrArg Prod.fst e
  have h2 := h.2.2.2.2.2 i hi
  rw [h1] at h2
  rcases hk with hk | hk
  · exact hk h2.1
  · exact hk h2.2
theorem getD_map {B : List Nat} {i : Nat} (h : i < B.length) : (B.map key).getD i 0 = key (B.getD i 0) := by
  rw [List.getD_eq_getElem?_getD, List.getD_eq_getElem?_getD, List.getElem?_map, List.getElem?_eq_getElem h]
  rfl
/-- what pagesRead found, in keys -/
theorem prP_of {R : List Nat} {k : Nat} {r : Int32} (h : (∃ i, i < R.length ∧ key (R.getD i 0) = k ∧ (∀ j, j < i → key (R.getD j 0) ≠ k) ∧ r = nI (1 + i / cp)) ∨ ((∀ j, j < R.length → key (R.getD j 0) ≠ k) ∧ r = nI (1 + (R.length - 1) / cp))) : prP (R.map key) cp k r := by
  unfold prP
  rw [List.length_map]
  rcases h with ⟨i, hi, h1, h2, h3⟩ | ⟨h1, h2⟩
  · exact Or.inl ⟨i, hi, by rw [getD_map hi]; exact h1, fun j hj => by rw [getD_map (by omega)]; exact h2 j hj, h3⟩
  · exact Or.inr ⟨fun j hj => by rw [getD_map hj]; exact h1 j hj, h2⟩
theorem XR.low {U : Nat → Prop} (h : XR key ldp dp efi ela eco ene rows dep E U) {r : Nat} (hr : r < 2 ^ dp) : (r % 2 ^ dep r = r ↔ r < 2 ^ dep r) ∧ eco r = if r < 2 ^ dep r then (clB E r (dep r)).length else 0 := by
  have hg := h.2.1.1
  have hr2 : r < 256 := Nat.lt_of_lt_of_le hr (p8 hg)
  have h1 : r % 2 ^ dep r = r ↔ r < 2 ^ dep r := ⟨fun e => by have q := Nat.mod_lt r (Nat.two_pow_pos (dep r)); omega, Nat.mod_eq_of_lt⟩
  refine ⟨h1, ?_⟩
  by_cases z : r < 2 ^ dep r
  · rw [if_pos z]
    have h2 := h.cnt hr2
    rw [h1.mpr z] at h2
    exact h2
  · rw [if_neg z, h.co hr2]
    have : E.filter (fun k => rowOf dep k == r) = [] := by
      rw [List.filter_eq_nil_iff]
      intro k _ q
      have q2 : rowOf dep k = r := by simpa using q
      unfold rowOf at q2
      have h3 := h.2.1.2.1 _ (mod_lt256 (hs k))
      have h4 := h.2.1.2.2 _ r (mod_lt256 (hs k)) hr2 (by rw [m256 _ (by omega), ← q2, Nat.mod_mod])
      apply z
      rw [h4, ← q2]
      exact Nat.mod_lt _ (Nat.two_pow_pos _)
    rw [this]; rfl
theorem XR.far {U : Nat → Prop} (h : XR key ldp dp efi ela eco ene rows dep E U) {r : Nat} (h1 : 2 ^ dp ≤ r) (h2 : r < 256) : ¬ r < 2 ^ dep r := by
  have := p2_le (h.2.1.2.1 r h2)
  omega
theorem XR.bkt {U : Nat → Prop} (h : XR key ldp dp efi ela eco ene rows dep E U) : so (fun q => if q % 2 ^ ldp q = q then 1 else 0) (2 ^ dp) = so (fun q => if q < 2 ^ dep q then 1 else 0) 256 := by
  refine so_ext (fun i hi => ?_) (p8 h.2.1.1) (fun i h1 h2 => if_neg (h.far h1 h2))
  rw [h.2.2.1 i hi]
  have := (h.low hi).1
  by_cases z : i < 2 ^ dep i
  · rw [if_pos z, if_pos (this.mpr z)]
  · rw [if_neg z, if_neg (fun y => z (this.mp y))]
theorem XR.ovf {U : Nat → Prop} (h : XR key ldp dp efi ela eco ene rows dep E U) : so (fun r => (eco r - 1) / cp) (2 ^ dp) = so (fun q => if q < 2 ^ dep q then ((clB E q (dep q)).length - 1) / cp else 0) 256 := by
  refine so_ext (fun i hi => ?_) (p8 h.2.1.1) (fun i h1 h2 => if_neg (h.far h1 h2))
  rw [(h.low hi).2]
  split
  · rfl
  · simp
theorem XR.bud {U : Nat → Prop} (h : XR key ldp dp efi ela eco ene rows dep E U) {x : Nat} (hx : x < 2 ^ dp) (h0 : 0 < dep x) : bdy ldp x = (x ^^^ 2 ^ (dep x - 1)) % 2 ^ dep x ∧ (ldp (bdy ldp x) = dep x ↔ dep (x ^^^ 2 ^ (dep x - 1)) = dep x) := by
  obtain ⟨hR, hX, hl, hbd, hf, hu⟩ := h
  have hg := hX.1
  have hx2 : x < 256 := Nat.lt_of_lt_of_le hx (p8 hg)
  have hb := hX.2.1 x hx2
  obtain ⟨c, hc⟩ : ∃ c, dep x = c + 1 := ⟨dep x - 1, by omega⟩
  have hbx : x ^^^ 2 ^ c < 256 := Nat.xor_lt_two_pow (n := 8) hx2 (Nat.pow_lt_pow_right (by decide) (by omega))
  have e2 : bdy ldp x = (x ^^^ 2 ^ c) % 2 ^ (c + 1) := by
    unfold bdy
    rw [hl x hx, hc, Nat.add_sub_cancel, Nat.xor_mod_two_pow, Nat.mod_eq_of_lt (a := 2 ^ c) (Nat.pow_lt_pow_right (by decide) (Nat.lt_succ_self c))]
  have e3 : (x ^^^ 2 ^ c) % 2 ^ (c + 1) < 2 ^ dp := Nat.lt_of_lt_of_le (Nat.mod_lt _ (Nat.two_pow_pos _)) (p2_le (by omega))
  have e4 : (x ^^^ 2 ^ c) % 2 ^ (c + 1) < 256 := m2 (by omega)
  rw [e2, hc, Nat.add_sub_cancel]
  refine ⟨rfl, ?_⟩
  rw [hl _ e3]
  constructor
  · intro w
    exact (hX.2.2 _ _ e4 hbx (by rw [w, Nat.mod_mod])).trans w
  · intro w
    exact (hX.2.2 _ _ hbx e4 (by rw [w, Nat.mod_mod])).trans w
end CM
end
section
theorem dX4_checkSlot_0 : decode cX4_checkSlot 0 = .ok (.iload_n 1, 1) := by decide +kernel
theorem dX4_checkSlot_1 : decode cX4_checkSlot 1 = .ok (.aload_n 0, 1) := by decide +kernel
theorem dX4_checkSlot_2 : decode cX4_checkSlot 2 = .ok (.getfield 21, 3) := by decide +kernel
theorem dX4_checkSlot_5 : decode cX4_checkSlot 5 = .ok (.invokevirtual 138, 3) := by decide +kernel
theorem dX4_checkSlot_8 : decode cX4_checkSlot 8 = .ok (.invokestatic 175, 3) := by decide +kernel
theorem dX4_checkSlot_11 : decode cX4_checkSlot 11 = .ok (.return_, 1) := by decide +kernel
theorem dX4_keyOfRow_0 : decode cX4_keyOfRow 0 = .ok (.iload_n 3, 1) := by decide +kernel
theorem dX4_keyOfRow_1 : decode cX4_keyOfRow 1 = .ok (.aload_n 1, 1) := by decide +kernel
theorem dX4_keyOfRow_2 : decode cX4_keyOfRow 2 = .ok (.iload_n 2, 1) := by decide +kernel
theorem dX4_keyOfRow_3 : decode cX4_keyOfRow 3 = .ok (.invokevirtual 123, 3) := by decide +kernel
theorem dX4_keyOfRow_6 : decode cX4_keyOfRow 6 = .ok (.invokestatic 175, 3) := by decide +kernel
theorem dX4_keyOfRow_9 : decode cX4_keyOfRow 9 = .ok (.aload_n 0, 1) := by decide +kernel
theorem dX4_keyOfRow_10 : decode cX4_keyOfRow 10 = .ok (.getfield 10, 3) := by decide +kernel
theorem dX4_keyOfRow_13 : decode cX4_keyOfRow 13 = .ok (.aload_n 1, 1) := by decide +kernel
theorem dX4_keyOfRow_14 : decode cX4_keyOfRow 14 = .ok (.iload_n 2, 1) := by decide +kernel
theorem dX4_keyOfRow_15 : decode cX4_keyOfRow 15 = .ok (.iload_n 3, 1) := by decide +kernel
theorem dX4_keyOfRow_16 : decode cX4_keyOfRow 16 = .ok (.invokevirtual 195, 3) := by decide +kernel
theorem dX4_keyOfRow_19 : decode cX4_keyOfRow 19 = .ok (.invokevirtual 198, 3) := by decide +kernel
theorem dX4_keyOfRow_22 : decode cX4_keyOfRow 22 = .ok (.ireturn, 1) := by decide +kernel
theorem dX4_buckets_0 : decode cX4_buckets 0 = .ok (.aload_n 0, 1) := by decide +kernel
theorem dX4_buckets_1 : decode cX4_buckets 1 = .ok (.getfield 21, 3) := by decide +kernel
theorem dX4_buckets_4 : decode cX4_buckets 4 = .ok (.invokevirtual 107, 3) := by decide +kernel
theorem dX4_buckets_7 : decode cX4_buckets 7 = .ok (.ireturn, 1) := by decide +kernel
theorem dX4_bucketSize_0 : decode cX4_bucketSize 0 = .ok (.aload_n 0, 1) := by decide +kernel
theorem dX4_bucketSize_1 : decode cX4_bucketSize 1 = .ok (.iload_n 1, 1) := by decide +kernel
theorem dX4_bucketSize_2 : decode cX4_bucketSize 2 = .ok (.invokevirtual 110, 3) := by decide +kernel
theorem dX4_bucketSize_5 : decode cX4_bucketSize 5 = .ok (.aload_n 0, 1) := by decide +kernel
theorem dX4_bucketSize_6 : decode cX4_bucketSize 6 = .ok (.getfield 21, 3) := by decide +kernel
theorem dX4_bucketSize_9 : decode cX4_bucketSize 9 = .ok (.getfield 116, 3) := by decide +kernel
theorem dX4_bucketSize_12 : decode cX4_bucketSize 12 = .ok (.aload_n 0, 1) := by decide +kernel
theorem dX4_bucketSize_13 : decode cX4_bucketSize 13 = .ok (.getfield 21, 3) := by decide +kernel
theorem dX4_bucketSize_16 : decode cX4_bucketSize 16 = .ok (.iload_n 1, 1) := by decide +kernel
theorem dX4_bucketSize_17 : decode cX4_bucketSize 17 = .ok (.invokevirtual 120, 3) := by decide +kernel
theorem dX4_bucketSize_20 : decode cX4_bucketSize 20 = .ok (.invokevirtual 123, 3) := by decide +kernel
theorem dX4_bucketSize_23 : decode cX4_bucketSize 23 = .ok (.ireturn, 1) := by decide +kernel
theorem dX4_keyAt_0 : decode cX4_keyAt 0 = .ok (.aload_n 0, 1) := by decide +kernel
theorem dX4_keyAt_1 : decode cX4_keyAt 1 = .ok (.iload_n 1, 1) := by decide +kernel
theorem dX4_keyAt_2 : decode cX4_keyAt 2 = .ok (.invokevirtual 110, 3) := by decide +kernel
theorem dX4_keyAt_5 : decode cX4_keyAt 5 = .ok (.aload_n 0, 1) := by decide +kernel
theorem dX4_keyAt_6 : decode cX4_keyAt 6 = .ok (.aload_n 0, 1) := by decide +kernel
theorem dX4_keyAt_7 : decode cX4_keyAt 7 = .ok (.getfield 21, 3) := by decide +kernel
theorem dX4_keyAt_10 : decode cX4_keyAt 10 = .ok (.getfield 116, 3) := by decide +kernel
theorem dX4_keyAt_13 : decode cX4_keyAt 13 = .ok (.aload_n 0, 1) := by decide +kernel
theorem dX4_keyAt_14 : decode cX4_keyAt 14 = .ok (.getfield 21, 3) := by decide +kernel
theorem dX4_keyAt_17 : decode cX4_keyAt 17 = .ok (.iload_n 1, 1) := by decide +kernel
theorem dX4_keyAt_18 : decode cX4_keyAt 18 = .ok (.invokevirtual 120, 3) := by decide +kernel
theorem dX4_keyAt_21 : decode cX4_keyAt 21 = .ok (.iload_n 2, 1) := by decide +kernel
theorem dX4_keyAt_22 : decode cX4_keyAt 22 = .ok (.invokevirtual 128, 3) := by decide +kernel
theorem dX4_keyAt_25 : decode cX4_keyAt 25 = .ok (.ireturn, 1) := by decide +kernel
theorem dX4_slotAt_0 : decode cX4_slotAt 0 = .ok (.iload_n 1, 1) := by decide +kernel
theorem dX4_slotAt_1 : decode cX4_slotAt 1 = .ok (.iconst 0, 1) := by decide +kernel
theorem dX4_slotAt_2 : decode cX4_slotAt 2 = .ok (.sipush 255, 3) := by decide +kernel
theorem dX4_slotAt_5 : decode cX4_slotAt 5 = .ok (.invokestatic 37, 3) := by decide +kernel
theorem dX4_slotAt_8 : decode cX4_slotAt 8 = .ok (.iload_n 1, 1) := by decide +kernel
theorem dX4_slotAt_9 : decode cX4_slotAt 9 = .ok (.aload_n 0, 1) := by decide +kernel
theorem dX4_slotAt_10 : decode cX4_slotAt 10 = .ok (.getfield 21, 3) := by decide +kernel
theorem dX4_slotAt_13 : decode cX4_slotAt 13 = .ok (.getfield 104, 3) := by decide +kernel
theorem dX4_slotAt_16 : decode cX4_slotAt 16 = .ok (.invokestatic 162, 3) := by decide +kernel
theorem dX4_slotAt_19 : decode cX4_slotAt 19 = .ok (.ireturn, 1) := by decide +kernel
theorem dX4_nextCursor_0 : decode cX4_nextCursor 0 = .ok (.iload_n 1, 1) := by decide +kernel
theorem dX4_nextCursor_1 : decode cX4_nextCursor 1 = .ok (.iconst 0, 1) := by decide +kernel
theorem dX4_nextCursor_2 : decode cX4_nextCursor 2 = .ok (.sipush 255, 3) := by decide +kernel
theorem dX4_nextCursor_5 : decode cX4_nextCursor 5 = .ok (.invokestatic 37, 3) := by decide +kernel
theorem dX4_nextCursor_8 : decode cX4_nextCursor 8 = .ok (.aload_n 0, 1) := by decide +kernel
theorem dX4_nextCursor_9 : decode cX4_nextCursor 9 = .ok (.getfield 21, 3) := by decide +kernel
theorem dX4_nextCursor_12 : decode cX4_nextCursor 12 = .ok (.iload_n 1, 1) := by decide +kernel
theorem dX4_nextCursor_13 : decode cX4_nextCursor 13 = .ok (.aload_n 0, 1) := by decide +kernel
theorem dX4_nextCursor_14 : decode cX4_nextCursor 14 = .ok (.getfield 21, 3) := by decide +kernel
theorem dX4_nextCursor_17 : decode cX4_nextCursor 17 = .ok (.getfield 104, 3) := by decide +kernel
theorem dX4_nextCursor_20 : decode cX4_nextCursor 20 = .ok (.invokestatic 162, 3) := by decide +kernel
theorem dX4_nextCursor_23 : decode cX4_nextCursor 23 = .ok (.invokevirtual 113, 3) := by decide +kernel
theorem dX4_nextCursor_26 : decode cX4_nextCursor 26 = .ok (.istore_n 2, 1) := by decide +kernel
theorem dX4_nextCursor_27 : decode cX4_nextCursor 27 = .ok (.iload_n 1, 1) := by decide +kernel
theorem dX4_nextCursor_28 : decode cX4_nextCursor 28 = .ok (.iload_n 2, 1) := by decide +kernel
theorem dX4_nextCursor_29 : decode cX4_nextCursor 29 = .ok (.invokestatic 165, 3) := by decide +kernel
theorem dX4_nextCursor_32 : decode cX4_nextCursor 32 = .ok (.iconst 1, 1) := by decide +kernel
theorem dX4_nextCursor_33 : decode cX4_nextCursor 33 = .ok (.iadd, 1) := by decide +kernel
theorem dX4_nextCursor_34 : decode cX4_nextCursor 34 = .ok (.istore_n 3, 1) := by decide +kernel
theorem dX4_nextCursor_35 : decode cX4_nextCursor 35 = .ok (.iload_n 3, 1) := by decide +kernel
theorem dX4_nextCursor_36 : decode cX4_nextCursor 36 = .ok (.iconst 1, 1) := by decide +kernel
theorem dX4_nextCursor_37 : decode cX4_nextCursor 37 = .ok (.iload_n 2, 1) := by decide +kernel
theorem dX4_nextCursor_38 : decode cX4_nextCursor 38 = .ok (.ishl, 1) := by decide +kernel
theorem dX4_nextCursor_39 : decode cX4_nextCursor 39 = .ok (.if_icmp .ne 7, 3) := by decide +kernel
theorem dX4_nextCursor_42 : decode cX4_nextCursor 42 = .ok (.iconst 0, 1) := by decide +kernel
theorem dX4_nextCursor_43 : decode cX4_nextCursor 43 = .ok (.goto 8, 3) := by decide +kernel
theorem dX4_nextCursor_46 : decode cX4_nextCursor 46 = .ok (.iload_n 3, 1) := by decide +kernel
theorem dX4_nextCursor_47 : decode cX4_nextCursor 47 = .ok (.iload_n 2, 1) := by decide +kernel
theorem dX4_nextCursor_48 : decode cX4_nextCursor 48 = .ok (.invokestatic 165, 3) := by decide +kernel
theorem dX4_nextCursor_51 : decode cX4_nextCursor 51 = .ok (.ireturn, 1) := by decide +kernel
set_option maxHeartbeats 4000000 in
set_option maxRecDepth 100000 in
theorem c_X4_buckets (l : Launch) (D : va_G) (cy : ClassId) (a : Nat → Nat) (key : Nat → Nat) (val : Nat → Nat) (ord : Nat → Nat) (tk : Nat) (cp : Nat) (efi : Nat → Nat) (ela : Nat → Nat) (eco : Nat → Nat) (ene : Nat → Nat) (ldp : Nat → Nat) (dp : Nat) (dbl : Int32) (hlv : Int32) (spl : Int32) (mrg : Int32) (lfi : Nat → Nat) (lla : Nat → Nat) (lco : Nat → Nat) (lne : Nat → Nat) (lev : Nat) (ptr : Nat) (llo : Nat) (lhi : Nat) (lsp : Int32)  (dep : Nat → Nat) (E L : List Nat) (hCR : CR key val ord tk cp efi ela eco ene ldp dp lfi lla lco lne lev ptr llo lhi dep E L)  : tq_F l yX4_buckets cX4_buckets 1 (some .int) 4 85 D cy (wC cy a key val ord tk cp efi ela eco ene ldp dp dbl hlv spl mrg lfi lla lco lne lev ptr llo lhi lsp) [.ref (a 0)] (fun r => r = nI (so (fun q => if q < 2 ^ dep q then 1 else 0) 256)) := by
  refine tq_F.mk (by decide) (Nat.le_of_ble_eq_true rfl) ?_
  intro p e s m args below meth c C hP hK ls hl
  obtain ⟨hx, hb, hml, hown, hrt, hlk, hT⟩ := id C
  have hl : lv_has ls 1 [(0, .ref (a 0))] := hl
  obtain ⟨hSO, ⟨hcp1, hcp2⟩, ⟨hlo, hh1, hh2⟩, ⟨rX, hXR⟩, ⟨rY, hYR⟩, hEL⟩ := id hCR
  have hky := hSO.keyb
  have hdp := hXR.2.1.1
  have hp8 := p8 hdp
  have hld := hXR.2.2.2.1
  have hY := hYR.2.1
  have hYm := hY.2
  have hYp := hY.1
  have htk9 := hSO.1
  refine lv_aload_n hx hb dX4_buckets_0 rfl (lv_at hl 0 rfl) ?_
  refine tq_get (C0 := RX4) (T := TX4) (N := 3) (ci := 4) (k := 1) C gX4 inX4 rfl (by decide) rfl fl_X4_21 hK hP 0 rfl rfl dX4_buckets_1 ?_
  refine tq_callF (va_runV C.fix (As := []) (rest := []) (c_X0_countBuckets l D cy a key val ord tk cp efi ela eco ene ldp dp dbl hlv spl mrg lfi lla lco lne lev ptr llo lhi lsp hdp hld) (tq_cV (n := 0) C ml_X4_107 im_X0_countBuckets se_X0_countBuckets ini_X0 cd_X0_countBuckets ⟨by decide, by decide, by decide +kernel⟩ ⟨Nat.le_of_ble_eq_true rfl, Nat.le_of_ble_eq_true rfl⟩) ⟨tq_Pf.blind, va_recv hK hP (ci := 0) (q0 := 2) rfl rfl, tq_preF C hK hP⟩ rfl rfl hl.1 rfl (lv_room (Nat.le_of_ble_eq_true rfl)) dX4_buckets_4 ⟨Nat.le_of_ble_eq_true rfl, Nat.le_of_ble_eq_true rfl⟩) (fun r4 hr4 => ?_)
  obtain rfl := hr4
  exact tq_fret (v := (nI (so (fun q => if q % 2 ^ ldp q = q then 1 else 0) (2 ^ dp)))) C rfl (by rw [hXR.bkt]) dX4_buckets_7
end
section

theorem tq_min {a b : Nat} (ha : a < 2 ^ 31) (hb : b < 2 ^ 31) : (if nI b < nI a then nI b else nI a) = nI (min a b) := by
  by_cases h : b < a
  · rw [if_pos (nI_lt h ha), Nat.min_eq_right (by omega)]
  · rw [if_neg (nI_nlt (by omega) hb), Nat.min_eq_left (by omega)]
theorem mvB_mem {E : List Nat} {p b q : Nat} : q ∈ mvB E p b ↔ q ∈ E := by
  unfold mvB
  rw [List.mem_append, List.mem_filter, List.mem_filter]
  constructor
  · rintro (h | h) <;> exact h.1
  · intro h
    cases z : (hs q % 2 ^ b == p % 2 ^ b)
    · exact Or.inl ⟨h, rfl⟩
    · exact Or.inr ⟨h, rfl⟩
theorem mvL_mem {L : List Nat} {v p r q : Nat} : q ∈ mvL L v p r ↔ q ∈ L := by
  unfold mvL
  rw [List.mem_append, List.mem_filter, List.mem_filter]
  constructor
  · rintro (h | h) <;> exact h.1
  · intro h
    cases z : (linOf v p q == r)
    · exact Or.inl ⟨h, rfl⟩
    · exact Or.inr ⟨h, rfl⟩
theorem mS_mem {cap x q : Nat} : ∀ {k : Nat} {X : (Nat → Nat) × List Nat × Int32}, q ∈ (mS cap x k X).2.1 ↔ q ∈ X.2.1
  | 0, _ => Iff.rfl
  | k + 1, X => by
    show q ∈ (if mcond cap x X = true then mS cap x k (mstep x X) else X).2.1 ↔ _
    split
    · rw [mS_mem (k := k)]; exact mvB_mem
    · exact Iff.rfl
theorem lB_mem {cap lo n q : Nat} : ∀ {k : Nat} {X : List Nat × Nat × Nat × Int32}, q ∈ (lB cap lo n k X).1 ↔ q ∈ X.1
  | 0, _ => Iff.rfl
  | k + 1, X => by
    show q ∈ (if bcond cap lo n X = true then lB cap lo n k (bstep X) else X).1 ↔ _
    split
    · rw [lB_mem (k := k)]; exact mvL_mem
    · exact Iff.rfl
theorem SO.mono {key val ord : Nat → Nat} {tk j : Nat} (h : SO key val ord tk) (hj : j ≤ tk) : SO key val ord j := ⟨by have := h.1; omega, h.2.1, h.2.2.1, fun a b c d => h.2.2.2.1 a b c (by omega), h.2.2.2.2⟩
theorem stl_rep {key val ord : Nat → Nat} {tk en k v : Nat} (h : SO key val ord tk) (hu : US ord tk en) (hk : key en = k) : stl key (va_up val en v) ord tk = repS (stl key val ord tk) k v := by
  unfold stl repS
  rw [List.map_map]
  refine List.map_congr_left (fun i hi => ?_)
  have hi2 := List.mem_range.mp hi
  show (key (ord i), va_up val en v (ord i)) = if key (ord i) = k then (k, v) else (key (ord i), val (ord i))
  by_cases z : ord i = en
  · rw [z, up_s, if_pos hk, hk]
  · rw [up_n _ _ z, if_neg]
    intro y
    exact z (h.injU _ _ ⟨i, hi2, rfl⟩ hu (y.trans hk.symm))
theorem stl_next {key val ord : Nat → Nat} {tk j : Nat} (h : SO key val ord tk) (hj : j < tk) : stl key val ord (j + 1) = insS (stl key val ord j) (key (ord j)) (val (ord j)) ∧ (stl key val ord tk).take (j + 1) = (stl key val ord tk).take j ++ [(key (ord j), val (ord j))] := by
  constructor
  · refine SS_ext (stl_sorted (h.mono (show j + 1 ≤ tk by omega)).2.2.2.1) (insS_sorted (stl_sorted (h.mono (Nat.le_of_lt hj)).2.2.2.1)) (fun q => ?_)
    rw [insS_mem (fun q hq => by
      obtain ⟨i, hi, rfl⟩ := stl_mem.mp hq
      have := h.2.2.2.1 i j hi hj
      show key (ord i) ≠ key (ord j)
      omega), stl_mem, stl_mem]
    constructor
    · rintro ⟨i, hi, rfl⟩
      rcases Nat.lt_or_eq_of_le (Nat.le_of_lt_succ hi) with z | rfl
      · exact Or.inr ⟨i, z, rfl⟩
      · exact Or.inl rfl
    · rintro (rfl | ⟨i, hi, rfl⟩)
      · exact ⟨j, by omega, rfl⟩
      · exact ⟨i, by omega, rfl⟩
  · have hl : j < (stl key val ord tk).length := by rw [stl_len]; exact hj
    rw [List.take_succ_eq_append_getElem hl]
    simp [stl]
theorem CR.added {key val ord : Nat → Nat} {tk cp : Nat} {dp : Nat} {dbl hlv spl mrg : Int32} {lev ptr llo lhi : Nat} {lsp : Int32} {dep : Nat → Nat} {E L : List Nat} {k v : Nat}
    {key2 val2 ord2 : Nat → Nat} {tk2 : Nat} {efi2 ela2 eco2 ene2 ldp2 : Nat → Nat} {dp2 : Nat} {dbl2 spl2 : Int32} {lfi2 lla2 lco2 lne2 : Nat → Nat} {lev2 ptr2 : Nat} {lsp2 : Int32}
    (h1 : SO key2 val2 ord2 tk2) (h2 : stl key2 val2 ord2 tk2 = insS (stl key val ord tk) k v) (h3 : tk2 = tk + 1) (hc : 1 ≤ cp ∧ cp ≤ 5) (hl : llo ≤ 50 ∧ 50 ≤ lhi ∧ lhi ≤ 200)
    (hX : ∃ r, XR key2 ldp2 dp2 efi2 ela2 eco2 ene2 r (pS cp E (hs k % 256) 9 (dep, dp, dbl, spl)).1 (E ++ [k]) (US ord2 tk2)) (e1 : (dp2, dbl2, spl2) = (pS cp E (hs k % 256) 9 (dep, dp, dbl, spl)).2)
    (hY : ∃ r, YR key2 lev2 ptr2 lfi2 lla2 lco2 lne2 r (L ++ [k]) (US ord2 tk2)) (e2 : (lev2, ptr2, lsp2) = lS cp lhi tk2 241 (lev, ptr, lsp)) (hin : ∀ i, i < tk2 → key2 (ord2 i) ∈ E ++ [k] ∧ key2 (ord2 i) ∈ L ++ [k]) :
    ∃ dep3 E3 L3, CR key2 val2 ord2 tk2 cp efi2 ela2 eco2 ene2 ldp2 dp2 lfi2 lla2 lco2 lne2 lev2 ptr2 llo lhi dep3 E3 L3 ∧ mkA key2 val2 ord2 tk2 cp dep3 dp2 E3 dbl2 hlv spl2 mrg L3 lev2 ptr2 llo lhi lsp2 = aadd (mkA key val ord tk cp dep dp E dbl hlv spl mrg L lev ptr llo lhi lsp) k v := by
  refine ⟨_, E ++ [k], L ++ [k], ⟨h1, hc, hl, hX, hY, hin⟩, ?_⟩
  unfold mkA aadd
  dsimp only
  rw [stl_len, ← h3, ← e2, h2, ← e1]
theorem CR.gone {key val ord : Nat → Nat} {tk cp : Nat} {dp : Nat} {dbl hlv spl mrg : Int32} {lev ptr llo lhi : Nat} {lsp : Int32} {dep : Nat → Nat} {E L : List Nat} {k : Nat}
    {ord2 : Nat → Nat} {efi2 ela2 eco2 ene2 ldp2 : Nat → Nat} {dp2 : Nat} {hlv2 mrg2 : Int32} {lfi2 lla2 lco2 lne2 : Nat → Nat} {lev2 ptr2 : Nat} {lsp2 : Int32}
    (h1 : SO key val ord2 (tk - 1)) (h2 : stl key val ord2 (tk - 1) = remS (stl key val ord tk) k) (hc : 1 ≤ cp ∧ cp ≤ 5) (hl : llo ≤ 50 ∧ 50 ≤ lhi ∧ lhi ≤ 200)
    (hX : ∃ r, XR key ldp2 dp2 efi2 ela2 eco2 ene2 r (mS cp (hs k % 256) 9 (dep, E.filter (· != k), mrg)).1 (mS cp (hs k % 256) 9 (dep, E.filter (· != k), mrg)).2.1 (US ord2 (tk - 1))) (e1 : dp2 = mx (mS cp (hs k % 256) 9 (dep, E.filter (· != k), mrg)).1 256) (e3 : mrg2 = (mS cp (hs k % 256) 9 (dep, E.filter (· != k), mrg)).2.2)
    (e4 : hlv2 = hlv + nI (dp - mx (mS cp (hs k % 256) 9 (dep, E.filter (· != k), mrg)).1 256))
    (hY : ∃ r, YR key lev2 ptr2 lfi2 lla2 lco2 lne2 r (lB cp llo (tk - 1) 241 (L.filter (· != k), lev, ptr, lsp)).1 (US ord2 (tk - 1))) (e2 : (lev2, ptr2, lsp2) = (lB cp llo (tk - 1) 241 (L.filter (· != k), lev, ptr, lsp)).2)
    (hin : ∀ i, i < tk - 1 → ∃ j, j < tk ∧ ord2 i = ord j ∧ key (ord j) ≠ k) (hEL : ∀ i, i < tk → key (ord i) ∈ E ∧ key (ord i) ∈ L) :
    ∃ dep3 E3 L3, CR key val ord2 (tk - 1) cp efi2 ela2 eco2 ene2 ldp2 dp2 lfi2 lla2 lco2 lne2 lev2 ptr2 llo lhi dep3 E3 L3 ∧ mkA key val ord2 (tk - 1) cp dep3 dp2 E3 dbl hlv2 spl mrg2 L3 lev2 ptr2 llo lhi lsp2 = adel (mkA key val ord tk cp dep dp E dbl hlv spl mrg L lev ptr llo lhi lsp) k := by
  refine ⟨_, _, _, ⟨h1, hc, hl, hX, hY, fun i hi => ?_⟩, ?_⟩
  · obtain ⟨j, hj, a, b⟩ := hin i hi
    rw [a, mS_mem, lB_mem]
    exact ⟨List.mem_filter.mpr ⟨(hEL j hj).1, by simpa using b⟩, List.mem_filter.mpr ⟨(hEL j hj).2, by simpa using b⟩⟩
  · unfold mkA adel
    dsimp only
    rw [stl_len, h2, e4, e3, e1, e2]
theorem CR.cleared {key val ord : Nat → Nat} {tk cp : Nat} {dp : Nat} {dbl hlv spl mrg : Int32} {lev ptr llo lhi : Nat} {lsp : Int32} {dep : Nat → Nat} {E L : List Nat} {c : Nat}
    {efi2 ela2 eco2 ene2 ldp ldp2 : Nat → Nat} {lfi2 lla2 lco2 lne2 : Nat → Nat} (h1 : SO key val ord tk) (hc : 1 ≤ c ∧ c ≤ 5) (hl : llo ≤ 50 ∧ 50 ≤ lhi ∧ lhi ≤ 200) (hbd : ∀ q, q < 256 → ldp q ≤ 8) (h2 : ldp2 = va_up ldp 0 0)
    (hX : RR efi2 ela2 eco2 ene2 (fun _ => [])) (hY : RR lfi2 lla2 lco2 lne2 (fun _ => [])) :
    CR key val ord 0 c efi2 ela2 eco2 ene2 ldp2 0 lfi2 lla2 lco2 lne2 0 0 llo lhi (fun _ => 0) [] [] ∧ mkA key val ord 0 c (fun _ => 0) 0 [] dbl hlv spl mrg [] 0 0 llo lhi lsp = aclr (mkA key val ord tk cp dep dp E dbl hlv spl mrg L lev ptr llo lhi lsp) c :=
  ⟨⟨h1.mono (Nat.zero_le _), hc, hl, ⟨_, XR.empty0 hX hbd h2⟩, ⟨_, hY, ⟨by decide, by decide⟩, fun r _ => rfl, fun r _ e he => absurd he List.not_mem_nil⟩, fun i hi => absurd hi (Nat.not_lt_zero _)⟩, rfl⟩

theorem dX4_insertIntoBoth_0 : decode cX4_insertIntoBoth 0 = .ok (.aload_n 0, 1) := by decide +kernel
theorem dX4_insertIntoBoth_1 : decode cX4_insertIntoBoth 1 = .ok (.getfield 21, 3) := by decide +kernel
theorem dX4_insertIntoBoth_4 : decode cX4_insertIntoBoth 4 = .ok (.iload_n 1, 1) := by decide +kernel
theorem dX4_insertIntoBoth_5 : decode cX4_insertIntoBoth 5 = .ok (.invokevirtual 184, 3) := by decide +kernel
theorem dX4_insertIntoBoth_8 : decode cX4_insertIntoBoth 8 = .ok (.aload_n 0, 1) := by decide +kernel
theorem dX4_insertIntoBoth_9 : decode cX4_insertIntoBoth 9 = .ok (.getfield 28, 3) := by decide +kernel
theorem dX4_insertIntoBoth_12 : decode cX4_insertIntoBoth 12 = .ok (.iload_n 1, 1) := by decide +kernel
theorem dX4_insertIntoBoth_13 : decode cX4_insertIntoBoth 13 = .ok (.invokevirtual 187, 3) := by decide +kernel
theorem dX4_insertIntoBoth_16 : decode cX4_insertIntoBoth 16 = .ok (.return_, 1) := by decide +kernel
theorem dX4_emptyAll_0 : decode cX4_emptyAll 0 = .ok (.aload_n 0, 1) := by decide +kernel
theorem dX4_emptyAll_1 : decode cX4_emptyAll 1 = .ok (.getfield 10, 3) := by decide +kernel
theorem dX4_emptyAll_4 : decode cX4_emptyAll 4 = .ok (.invokevirtual 188, 3) := by decide +kernel
theorem dX4_emptyAll_7 : decode cX4_emptyAll 7 = .ok (.aload_n 0, 1) := by decide +kernel
theorem dX4_emptyAll_8 : decode cX4_emptyAll 8 = .ok (.getfield 21, 3) := by decide +kernel
theorem dX4_emptyAll_11 : decode cX4_emptyAll 11 = .ok (.invokevirtual 191, 3) := by decide +kernel
theorem dX4_emptyAll_14 : decode cX4_emptyAll 14 = .ok (.aload_n 0, 1) := by decide +kernel
theorem dX4_emptyAll_15 : decode cX4_emptyAll 15 = .ok (.getfield 28, 3) := by decide +kernel
theorem dX4_emptyAll_18 : decode cX4_emptyAll 18 = .ok (.invokevirtual 194, 3) := by decide +kernel
theorem dX4_emptyAll_21 : decode cX4_emptyAll 21 = .ok (.return_, 1) := by decide +kernel
theorem dX4_put_0 : decode cX4_put 0 = .ok (.iload_n 1, 1) := by decide +kernel
theorem dX4_put_1 : decode cX4_put 1 = .ok (.invokestatic 32, 3) := by decide +kernel
theorem dX4_put_4 : decode cX4_put 4 = .ok (.iload_n 2, 1) := by decide +kernel
theorem dX4_put_5 : decode cX4_put 5 = .ok (.iconst 0, 1) := by decide +kernel
theorem dX4_put_6 : decode cX4_put 6 = .ok (.ldc 36, 2) := by decide +kernel
theorem dX4_put_8 : decode cX4_put 8 = .ok (.invokestatic 37, 3) := by decide +kernel
theorem dX4_put_11 : decode cX4_put 11 = .ok (.aload_n 0, 1) := by decide +kernel
theorem dX4_put_12 : decode cX4_put 12 = .ok (.getfield 21, 3) := by decide +kernel
theorem dX4_put_15 : decode cX4_put 15 = .ok (.iload_n 1, 1) := by decide +kernel
theorem dX4_put_16 : decode cX4_put 16 = .ok (.invokevirtual 41, 3) := by decide +kernel
theorem dX4_put_19 : decode cX4_put 19 = .ok (.istore_n 3, 1) := by decide +kernel
theorem dX4_put_20 : decode cX4_put 20 = .ok (.iload_n 3, 1) := by decide +kernel
theorem dX4_put_21 : decode cX4_put 21 = .ok (.ifCond .eq 13, 3) := by decide +kernel
theorem dX4_put_24 : decode cX4_put 24 = .ok (.aload_n 0, 1) := by decide +kernel
theorem dX4_put_25 : decode cX4_put 25 = .ok (.getfield 10, 3) := by decide +kernel
theorem dX4_put_28 : decode cX4_put 28 = .ok (.iload_n 3, 1) := by decide +kernel
theorem dX4_put_29 : decode cX4_put 29 = .ok (.iload_n 2, 1) := by decide +kernel
theorem dX4_put_30 : decode cX4_put 30 = .ok (.invokevirtual 45, 3) := by decide +kernel
theorem dX4_put_33 : decode cX4_put 33 = .ok (.ireturn, 1) := by decide +kernel
theorem dX4_put_34 : decode cX4_put 34 = .ok (.aload_n 0, 1) := by decide +kernel
theorem dX4_put_35 : decode cX4_put 35 = .ok (.getfield 10, 3) := by decide +kernel
theorem dX4_put_38 : decode cX4_put 38 = .ok (.getfield 49, 3) := by decide +kernel
theorem dX4_put_41 : decode cX4_put 41 = .ok (.bipush 120, 2) := by decide +kernel
theorem dX4_put_43 : decode cX4_put 43 = .ok (.if_icmp .lt 13, 3) := by decide +kernel
theorem dX4_put_46 : decode cX4_put 46 = .ok (.new 53, 3) := by decide +kernel
theorem dX4_put_49 : decode cX4_put 49 = .ok (.dup, 1) := by decide +kernel
theorem dX4_put_50 : decode cX4_put 50 = .ok (.ldc 55, 2) := by decide +kernel
theorem dX4_put_52 : decode cX4_put 52 = .ok (.invokespecial 57, 3) := by decide +kernel
theorem dX4_put_55 : decode cX4_put 55 = .ok (.athrow, 1) := by decide +kernel
theorem dX4_put_56 : decode cX4_put 56 = .ok (.aload_n 0, 1) := by decide +kernel
theorem dX4_put_57 : decode cX4_put 57 = .ok (.aload_n 0, 1) := by decide +kernel
theorem dX4_put_58 : decode cX4_put 58 = .ok (.getfield 10, 3) := by decide +kernel
theorem dX4_put_61 : decode cX4_put 61 = .ok (.iload_n 1, 1) := by decide +kernel
theorem dX4_put_62 : decode cX4_put 62 = .ok (.iload_n 2, 1) := by decide +kernel
theorem dX4_put_63 : decode cX4_put 63 = .ok (.invokevirtual 60, 3) := by decide +kernel
theorem dX4_put_66 : decode cX4_put 66 = .ok (.invokevirtual 63, 3) := by decide +kernel
theorem dX4_put_69 : decode cX4_put 69 = .ok (.iconst (-1), 1) := by decide +kernel
theorem dX4_put_70 : decode cX4_put 70 = .ok (.ireturn, 1) := by decide +kernel
theorem dX4_remove_0 : decode cX4_remove 0 = .ok (.iload_n 1, 1) := by decide +kernel
theorem dX4_remove_1 : decode cX4_remove 1 = .ok (.invokestatic 32, 3) := by decide +kernel
theorem dX4_remove_4 : decode cX4_remove 4 = .ok (.aload_n 0, 1) := by decide +kernel
theorem dX4_remove_5 : decode cX4_remove 5 = .ok (.getfield 21, 3) := by decide +kernel
theorem dX4_remove_8 : decode cX4_remove 8 = .ok (.iload_n 1, 1) := by decide +kernel
theorem dX4_remove_9 : decode cX4_remove 9 = .ok (.invokevirtual 41, 3) := by decide +kernel
theorem dX4_remove_12 : decode cX4_remove 12 = .ok (.istore_n 2, 1) := by decide +kernel
theorem dX4_remove_13 : decode cX4_remove 13 = .ok (.iload_n 2, 1) := by decide +kernel
theorem dX4_remove_14 : decode cX4_remove 14 = .ok (.ifCond .ne 5, 3) := by decide +kernel
theorem dX4_remove_17 : decode cX4_remove 17 = .ok (.iconst (-1), 1) := by decide +kernel
theorem dX4_remove_18 : decode cX4_remove 18 = .ok (.ireturn, 1) := by decide +kernel
theorem dX4_remove_19 : decode cX4_remove 19 = .ok (.aload_n 0, 1) := by decide +kernel
theorem dX4_remove_20 : decode cX4_remove 20 = .ok (.getfield 10, 3) := by decide +kernel
theorem dX4_remove_23 : decode cX4_remove 23 = .ok (.iload_n 2, 1) := by decide +kernel
theorem dX4_remove_24 : decode cX4_remove 24 = .ok (.invokevirtual 66, 3) := by decide +kernel
theorem dX4_remove_27 : decode cX4_remove 27 = .ok (.aload_n 0, 1) := by decide +kernel
theorem dX4_remove_28 : decode cX4_remove 28 = .ok (.getfield 21, 3) := by decide +kernel
theorem dX4_remove_31 : decode cX4_remove 31 = .ok (.iload_n 2, 1) := by decide +kernel
theorem dX4_remove_32 : decode cX4_remove 32 = .ok (.invokevirtual 69, 3) := by decide +kernel
theorem dX4_remove_35 : decode cX4_remove 35 = .ok (.aload_n 0, 1) := by decide +kernel
theorem dX4_remove_36 : decode cX4_remove 36 = .ok (.getfield 28, 3) := by decide +kernel
theorem dX4_remove_39 : decode cX4_remove 39 = .ok (.iload_n 2, 1) := by decide +kernel
theorem dX4_remove_40 : decode cX4_remove 40 = .ok (.invokevirtual 72, 3) := by decide +kernel
theorem dX4_remove_43 : decode cX4_remove 43 = .ok (.aload_n 0, 1) := by decide +kernel
theorem dX4_remove_44 : decode cX4_remove 44 = .ok (.getfield 10, 3) := by decide +kernel
theorem dX4_remove_47 : decode cX4_remove 47 = .ok (.iload_n 2, 1) := by decide +kernel
theorem dX4_remove_48 : decode cX4_remove 48 = .ok (.invokevirtual 73, 3) := by decide +kernel
theorem dX4_remove_51 : decode cX4_remove 51 = .ok (.ireturn, 1) := by decide +kernel
theorem dX4_rebuild_0 : decode cX4_rebuild 0 = .ok (.iload_n 1, 1) := by decide +kernel
theorem dX4_rebuild_1 : decode cX4_rebuild 1 = .ok (.iconst 1, 1) := by decide +kernel
theorem dX4_rebuild_2 : decode cX4_rebuild 2 = .ok (.iconst 5, 1) := by decide +kernel
theorem dX4_rebuild_3 : decode cX4_rebuild 3 = .ok (.invokestatic 37, 3) := by decide +kernel
theorem dX4_rebuild_6 : decode cX4_rebuild 6 = .ok (.aload_n 0, 1) := by decide +kernel
theorem dX4_rebuild_7 : decode cX4_rebuild 7 = .ok (.getfield 10, 3) := by decide +kernel
theorem dX4_rebuild_10 : decode cX4_rebuild 10 = .ok (.getfield 83, 3) := by decide +kernel
theorem dX4_rebuild_13 : decode cX4_rebuild 13 = .ok (.istore_n 2, 1) := by decide +kernel
theorem dX4_rebuild_14 : decode cX4_rebuild 14 = .ok (.aload_n 0, 1) := by decide +kernel
theorem dX4_rebuild_15 : decode cX4_rebuild 15 = .ok (.getfield 10, 3) := by decide +kernel
theorem dX4_rebuild_18 : decode cX4_rebuild 18 = .ok (.getfield 49, 3) := by decide +kernel
theorem dX4_rebuild_21 : decode cX4_rebuild 21 = .ok (.istore_n 3, 1) := by decide +kernel
theorem dX4_rebuild_22 : decode cX4_rebuild 22 = .ok (.aload_n 0, 1) := by decide +kernel
theorem dX4_rebuild_23 : decode cX4_rebuild 23 = .ok (.invokevirtual 80, 3) := by decide +kernel
theorem dX4_rebuild_26 : decode cX4_rebuild 26 = .ok (.aload_n 0, 1) := by decide +kernel
theorem dX4_rebuild_27 : decode cX4_rebuild 27 = .ok (.getfield 10, 3) := by decide +kernel
theorem dX4_rebuild_30 : decode cX4_rebuild 30 = .ok (.iload_n 1, 1) := by decide +kernel
theorem dX4_rebuild_31 : decode cX4_rebuild 31 = .ok (.putfield 83, 3) := by decide +kernel
theorem dX4_rebuild_34 : decode cX4_rebuild 34 = .ok (.iconst 0, 1) := by decide +kernel
theorem dX4_rebuild_35 : decode cX4_rebuild 35 = .ok (.istore 4, 2) := by decide +kernel
theorem dX4_rebuild_37 : decode cX4_rebuild 37 = .ok (.iload 4, 2) := by decide +kernel
theorem dX4_rebuild_39 : decode cX4_rebuild 39 = .ok (.iload_n 3, 1) := by decide +kernel
theorem dX4_rebuild_40 : decode cX4_rebuild 40 = .ok (.if_icmp .ge 20, 3) := by decide +kernel
theorem dX4_rebuild_43 : decode cX4_rebuild 43 = .ok (.aload_n 0, 1) := by decide +kernel
theorem dX4_rebuild_44 : decode cX4_rebuild 44 = .ok (.aload_n 0, 1) := by decide +kernel
theorem dX4_rebuild_45 : decode cX4_rebuild 45 = .ok (.getfield 10, 3) := by decide +kernel
theorem dX4_rebuild_48 : decode cX4_rebuild 48 = .ok (.invokevirtual 86, 3) := by decide +kernel
theorem dX4_rebuild_51 : decode cX4_rebuild 51 = .ok (.invokevirtual 63, 3) := by decide +kernel
theorem dX4_rebuild_54 : decode cX4_rebuild 54 = .ok (.iinc 4 1, 3) := by decide +kernel
theorem dX4_rebuild_57 : decode cX4_rebuild 57 = .ok (.goto (-20), 3) := by decide +kernel
theorem dX4_rebuild_60 : decode cX4_rebuild 60 = .ok (.iload_n 2, 1) := by decide +kernel
theorem dX4_rebuild_61 : decode cX4_rebuild 61 = .ok (.ireturn, 1) := by decide +kernel
set_option maxHeartbeats 4000000 in
set_option maxRecDepth 100000 in
theorem c_X4_insertIntoBoth (l : Launch) (D : va_G) (cy : ClassId) (a : Nat → Nat) (key : Nat → Nat) (val : Nat → Nat) (ord : Nat → Nat) (tk : Nat) (cp : Nat) (efi : Nat → Nat) (ela : Nat → Nat) (eco : Nat → Nat) (ene : Nat → Nat) (ldp : Nat → Nat) (dp : Nat) (dbl : Int32) (hlv : Int32) (spl : Int32) (mrg : Int32) (lfi : Nat → Nat) (lla : Nat → Nat) (lco : Nat → Nat) (lne : Nat → Nat) (lev : Nat) (ptr : Nat) (llo : Nat) (lhi : Nat) (lsp : Int32) (en : Nat) (rX rY : Nat → List Nat) (dep : Nat → Nat) (E L : List Nat) (U1 U2 : Nat → Prop) (hXR : XR key ldp dp efi ela eco ene rX dep E U1) (hYR : YR key lev ptr lfi lla lco lne rY L U1) (hkey : ∀ e, 1 ≤ e → e ≤ 120 → key e < 65536) (h1 : 1 ≤ en) (h2 : en ≤ 120) (hnU : ¬ U1 en) (hU1 : ∀ e, U1 e → U2 e) (hU2 : U2 en) (hcp1 : 1 ≤ cp) (hcp2 : cp ≤ 5) (htk : tk ≤ 120) (hlo : llo ≤ 50) (hh1 : 50 ≤ lhi) (hh2 : lhi ≤ 200) : tq_V (S := (Nat → Nat) × (Nat → Nat) × (Nat → Nat) × (Nat → Nat) × (Nat → Nat) × Nat × Int32 × Int32 × (Nat → Nat) × (Nat → Nat) × (Nat → Nat) × (Nat → Nat) × Nat × Nat × Int32) l yX4_insertIntoBoth cX4_insertIntoBoth 2 5 116 0 0 D cy (wC cy a key val ord tk cp efi ela eco ene ldp dp dbl hlv spl mrg lfi lla lco lne lev ptr llo lhi lsp) [.ref (a 0), .int (nI (en))] (fun u => (∃ r, XR key u.2.2.2.2.1 u.2.2.2.2.2.1 u.1 u.2.1 u.2.2.1 u.2.2.2.1 r (pS cp E (hs (key en) % 256) 9 (dep, dp, dbl, spl)).1 (E ++ [key en]) U2) ∧ (u.2.2.2.2.2.1, u.2.2.2.2.2.2.1, u.2.2.2.2.2.2.2.1) = (pS cp E (hs (key en) % 256) 9 (dep, dp, dbl, spl)).2 ∧ (∃ r, YR key u.2.2.2.2.2.2.2.2.2.2.2.2.1 u.2.2.2.2.2.2.2.2.2.2.2.2.2.1 u.2.2.2.2.2.2.2.2.1 u.2.2.2.2.2.2.2.2.2.1 u.2.2.2.2.2.2.2.2.2.2.1 u.2.2.2.2.2.2.2.2.2.2.2.1 r (L ++ [key en]) U2) ∧ (u.2.2.2.2.2.2.2.2.2.2.2.2.1, u.2.2.2.2.2.2.2.2.2.2.2.2.2.1, u.2.2.2.2.2.2.2.2.2.2.2.2.2.2) = (lS cp lhi tk 241 (lev, ptr, lsp))) (fun u => (wC cy a key val ord tk cp u.1 u.2.1 u.2.2.1 u.2.2.2.1 u.2.2.2.2.1 u.2.2.2.2.2.1 u.2.2.2.2.2.2.1 hlv u.2.2.2.2.2.2.2.1 mrg u.2.2.2.2.2.2.2.2.1 u.2.2.2.2.2.2.2.2.2.1 u.2.2.2.2.2.2.2.2.2.2.1 u.2.2.2.2.2.2.2.2.2.2.2.1 u.2.2.2.2.2.2.2.2.2.2.2.2.1 u.2.2.2.2.2.2.2.2.2.2.2.2.2.1 llo lhi u.2.2.2.2.2.2.2.2.2.2.2.2.2.2)) := by
  refine tq_V.mk (by decide) (Nat.le_of_ble_eq_true rfl) ?_
  intro p e s m args below meth c A C hin hP hK hD hS hA ls hl
  obtain ⟨hx, hb, hml, hown, hrt, hlk, hT⟩ := id C
  have hl : lv_has ls 2 [(0, .ref (a 0)), (1, .int (nI (en)))] := hl
  refine lv_aload_n hx hb dX4_insertIntoBoth_0 rfl (lv_at hl 0 rfl) ?_
  refine tq_get (C0 := RX4) (T := TX4) (N := 3) (ci := 4) (k := 1) C gX4 inX4 rfl (by decide) rfl fl_X4_21 hK hP 0 rfl rfl dX4_insertIntoBoth_1 ?_
  refine lv_iload_n hx hb dX4_insertIntoBoth_4 rfl (lv_at hl 1 rfl) ?_
  refine tq_callV (W3 := fun u => (wC cy a key val ord tk cp u.1 u.2.1 u.2.2.1 u.2.2.2.1 u.2.2.2.2.1 u.2.2.2.2.2.1 u.2.2.2.2.2.2.1 hlv u.2.2.2.2.2.2.2 mrg lfi lla lco lne lev ptr llo lhi lsp)) (wr := []) (va_runV C.fix (As := [.int (nI (en))]) (rest := []) ((c_X0_insert l D cy a key val ord tk cp efi ela eco ene ldp dp dbl hlv spl mrg lfi lla lco lne lev ptr llo lhi lsp en rX dep E U1 hXR hkey U2 h1 h2 hnU hU1 hU2 hcp2) s.heap.size) (tq_cV (n := 1) C ml_X4_184 im_X0_insert se_X0_insert ini_X0 cd_X0_insert ⟨by decide, by decide, by decide +kernel⟩ ⟨Nat.le_of_ble_eq_true rfl, Nat.le_of_ble_eq_true rfl⟩) ⟨tq_Pc.blind, va_recv hK hP (ci := 0) (q0 := 2) rfl rfl, tq_preC C hK hP hD⟩ rfl rfl hl.1 rfl (lv_room (Nat.le_of_ble_eq_true rfl)) dX4_insertIntoBoth_5 ⟨Nat.le_of_ble_eq_true rfl, Nat.le_of_ble_eq_true rfl⟩) hP hD hS hA [0, 1, 2, 3, 4, 5, 6, 7, 8, 9, 10, 11, 12, 13, 14, 15, 16, 17] [] [0, 1, 2, 3, 4, 5, 6, 7, 8, 9, 10, 11, 12, 13, 14, 15, 16, 17] rfl rfl (by decide) (by decide) (by decide) (fun _ => rfl) (fun u5 H locs hr5 hP hD hS => ?_)
  obtain ⟨efi2, ela2, eco2, ene2, ldp2, dp2, dbl2, spl2⟩ := u5
  try dsimp only at hr5
  have hP : va_P D vwCl (wC cy a key val ord tk cp efi2 ela2 eco2 ene2 ldp2 dp2 dbl2 hlv spl2 mrg lfi lla lco lne lev ptr llo lhi lsp) H := hP
  have hD : va_D A (wC cy a key val ord tk cp efi2 ela2 eco2 ene2 ldp2 dp2 dbl2 hlv spl2 mrg lfi lla lco lne lev ptr llo lhi lsp) := hD
  refine lv_aload_n hx hb dX4_insertIntoBoth_8 rfl (lv_at hl 0 rfl) ?_
  refine tq_get (C0 := RX4) (T := TX4) (N := 3) (ci := 4) (k := 2) C gX4 inX4 rfl (by decide) rfl fl_X4_28 hK hP 0 rfl rfl dX4_insertIntoBoth_9 ?_
  refine lv_iload_n hx hb dX4_insertIntoBoth_12 rfl (lv_at hl 1 rfl) ?_
  refine tq_callV (W3 := fun u => (wC cy a key val ord tk cp efi2 ela2 eco2 ene2 ldp2 dp2 dbl2 hlv spl2 mrg u.1 u.2.1 u.2.2.1 u.2.2.2.1 u.2.2.2.2.1 u.2.2.2.2.2.1 llo lhi u.2.2.2.2.2.2)) (wr := []) (va_runV C.fix (As := [.int (nI (en))]) (rest := []) ((c_X1_insert l D cy a key val ord tk cp efi2 ela2 eco2 ene2 ldp2 dp2 dbl2 hlv spl2 mrg lfi lla lco lne lev ptr llo lhi lsp en rY L U1 hYR hkey U2 h1 h2 hcp1 hcp2 htk hlo hh1 hh2 hnU hU1 hU2) H.size) (tq_cV (n := 1) C ml_X4_187 im_X1_insert se_X1_insert ini_X1 cd_X1_insert ⟨by decide, by decide, by decide +kernel⟩ ⟨Nat.le_of_ble_eq_true rfl, Nat.le_of_ble_eq_true rfl⟩) ⟨tq_Pc.blind, va_recv hK hP (ci := 1) (q0 := 3) rfl rfl, tq_preC C hK hP hD⟩ rfl rfl hl.1 rfl (lv_room (Nat.le_of_ble_eq_true rfl)) dX4_insertIntoBoth_13 ⟨Nat.le_of_ble_eq_true rfl, Nat.le_of_ble_eq_true rfl⟩) hP hD hS hA [0, 1, 2, 3, 4, 5, 6, 7, 8, 9, 10, 11, 12, 13, 14, 15, 16, 17] [] [0, 1, 2, 3, 4, 5, 6, 7, 8, 9, 10, 11, 12, 13, 14, 15, 16, 17] rfl rfl (by decide) (by decide) (by decide) (fun _ => rfl) (fun u13 H locs hr13 hP hD hS => ?_)
  obtain ⟨lfi2, lla2, lco2, lne2, lev2, ptr2, lsp2⟩ := u13
  try dsimp only at hr13
  have hP : va_P D vwCl (wC cy a key val ord tk cp efi2 ela2 eco2 ene2 ldp2 dp2 dbl2 hlv spl2 mrg lfi2 lla2 lco2 lne2 lev2 ptr2 llo lhi lsp2) H := hP
  have hD : va_D A (wC cy a key val ord tk cp efi2 ela2 eco2 ene2 ldp2 dp2 dbl2 hlv spl2 mrg lfi2 lla2 lco2 lne2 lev2 ptr2 llo lhi lsp2) := hD
  exact tq_vret C (efi2, ela2, eco2, ene2, ldp2, dp2, dbl2, spl2, lfi2, lla2, lco2, lne2, lev2, ptr2, lsp2) hP hD hS (⟨hr5.1, hr5.2, hr13.1, hr13.2⟩) (Nat.le_of_ble_eq_true rfl) (Nat.le_of_ble_eq_true rfl) dX4_insertIntoBoth_16
set_option maxHeartbeats 4000000 in
set_option maxRecDepth 100000 in
theorem c_X4_emptyAll (l : Launch) (D : va_G) (cy : ClassId) (a : Nat → Nat) (key : Nat → Nat) (val : Nat → Nat) (ord : Nat → Nat) (tk : Nat) (cp : Nat) (efi : Nat → Nat) (ela : Nat → Nat) (eco : Nat → Nat) (ene : Nat → Nat) (ldp : Nat → Nat) (dp : Nat) (dbl : Int32) (hlv : Int32) (spl : Int32) (mrg : Int32) (lfi : Nat → Nat) (lla : Nat → Nat) (lco : Nat → Nat) (lne : Nat → Nat) (lev : Nat) (ptr : Nat) (llo : Nat) (lhi : Nat) (lsp : Int32)   : tq_V (S := (Nat → Nat) × (Nat → Nat) × (Nat → Nat) × (Nat → Nat) × (Nat → Nat) × (Nat → Nat)) l yX4_emptyAll cX4_emptyAll 1 4 82 0 0 D cy (wC cy a key val ord tk cp efi ela eco ene ldp dp dbl hlv spl mrg lfi lla lco lne lev ptr llo lhi lsp) [.ref (a 0)] (fun u => RR u.1 u.2.1 u.2.2.1 ene (fun _ => []) ∧ RR u.2.2.2.1 u.2.2.2.2.1 u.2.2.2.2.2 lne (fun _ => [])) (fun u => (wC cy a key val ord 0 cp u.1 u.2.1 u.2.2.1 ene (va_up ldp 0 0) 0 dbl hlv spl mrg u.2.2.2.1 u.2.2.2.2.1 u.2.2.2.2.2 lne 0 0 llo lhi lsp)) := by
  refine tq_V.mk (by decide) (Nat.le_of_ble_eq_true rfl) ?_
  intro p e s m args below meth c A C hin hP hK hD hS hA ls hl
  obtain ⟨hx, hb, hml, hown, hrt, hlk, hT⟩ := id C
  have hl : lv_has ls 1 [(0, .ref (a 0))] := hl
  refine lv_aload_n hx hb dX4_emptyAll_0 rfl (lv_at hl 0 rfl) ?_
  refine tq_get (C0 := RX4) (T := TX4) (N := 3) (ci := 4) (k := 0) C gX4 inX4 rfl (by decide) rfl fl_X4_10 hK hP 0 rfl rfl dX4_emptyAll_1 ?_
  refine tq_callV (W3 := fun u => (wC cy a key val ord 0 cp efi ela eco ene ldp dp dbl hlv spl mrg lfi lla lco lne lev ptr llo lhi lsp)) (wr := []) (va_runV C.fix (As := []) (rest := []) ((c_X3_releaseAll l D cy a key val ord tk cp efi ela eco ene ldp dp dbl hlv spl mrg lfi lla lco lne lev ptr llo lhi lsp) s.heap.size) (tq_cV (n := 0) C ml_X4_188 im_X3_releaseAll se_X3_releaseAll ini_X3 cd_X3_releaseAll ⟨by decide, by decide, by decide +kernel⟩ ⟨Nat.le_of_ble_eq_true rfl, Nat.le_of_ble_eq_true rfl⟩) ⟨tq_Pc.blind, va_recv hK hP (ci := 3) (q0 := 1) rfl rfl, tq_preC C hK hP hD⟩ rfl rfl hl.1 rfl (lv_room (Nat.le_of_ble_eq_true rfl)) dX4_emptyAll_4 ⟨Nat.le_of_ble_eq_true rfl, Nat.le_of_ble_eq_true rfl⟩) hP hD hS hA [0, 1, 2, 3, 4, 5, 6, 7, 8, 9, 10, 11, 12, 13, 14, 15, 16, 17] [] [0, 1, 2, 3, 4, 5, 6, 7, 8, 9, 10, 11, 12, 13, 14, 15, 16, 17] rfl rfl (by decide) (by decide) (by decide) (fun _ => rfl) (fun u4 H locs hr4 hP hD hS => ?_)
  have hP : va_P D vwCl (wC cy a key val ord 0 cp efi ela eco ene ldp dp dbl hlv spl mrg lfi lla lco lne lev ptr llo lhi lsp) H := hP
  have hD : va_D A (wC cy a key val ord 0 cp efi ela eco ene ldp dp dbl hlv spl mrg lfi lla lco lne lev ptr llo lhi lsp) := hD
  refine lv_aload_n hx hb dX4_emptyAll_7 rfl (lv_at hl 0 rfl) ?_
  refine tq_get (C0 := RX4) (T := TX4) (N := 3) (ci := 4) (k := 1) C gX4 inX4 rfl (by decide) rfl fl_X4_21 hK hP 0 rfl rfl dX4_emptyAll_8 ?_
  refine tq_callV (W3 := fun u => (wC cy a key val ord 0 cp u.1 u.2.1 u.2.2 ene (va_up ldp 0 0) 0 dbl hlv spl mrg lfi lla lco lne lev ptr llo lhi lsp)) (wr := []) (va_runV C.fix (As := []) (rest := []) ((c_X0_reset l D cy a key val ord 0 cp efi ela eco ene ldp dp dbl hlv spl mrg lfi lla lco lne lev ptr llo lhi lsp) H.size) (tq_cV (n := 0) C ml_X4_191 im_X0_reset se_X0_reset ini_X0 cd_X0_reset ⟨by decide, by decide, by decide +kernel⟩ ⟨Nat.le_of_ble_eq_true rfl, Nat.le_of_ble_eq_true rfl⟩) ⟨tq_Pc.blind, va_recv hK hP (ci := 0) (q0 := 2) rfl rfl, tq_preC C hK hP hD⟩ rfl rfl hl.1 rfl (lv_room (Nat.le_of_ble_eq_true rfl)) dX4_emptyAll_11 ⟨Nat.le_of_ble_eq_true rfl, Nat.le_of_ble_eq_true rfl⟩) hP hD hS hA [0, 1, 2, 3, 4, 5, 6, 7, 8, 9, 10, 11, 12, 13, 14, 15, 16, 17] [] [0, 1, 2, 3, 4, 5, 6, 7, 8, 9, 10, 11, 12, 13, 14, 15, 16, 17] rfl rfl (by decide) (by decide) (by decide) (fun _ => rfl) (fun u11 H locs hr11 hP hD hS => ?_)
  obtain ⟨efi2, ela2, eco2⟩ := u11
  try dsimp only at hr11
  have hP : va_P D vwCl (wC cy a key val ord 0 cp efi2 ela2 eco2 ene (va_up ldp 0 0) 0 dbl hlv spl mrg lfi lla lco lne lev ptr llo lhi lsp) H := hP
  have hD : va_D A (wC cy a key val ord 0 cp efi2 ela2 eco2 ene (va_up ldp 0 0) 0 dbl hlv spl mrg lfi lla lco lne lev ptr llo lhi lsp) := hD
  refine lv_aload_n hx hb dX4_emptyAll_14 rfl (lv_at hl 0 rfl) ?_
  refine tq_get (C0 := RX4) (T := TX4) (N := 3) (ci := 4) (k := 2) C gX4 inX4 rfl (by decide) rfl fl_X4_28 hK hP 0 rfl rfl dX4_emptyAll_15 ?_
  refine tq_callV (W3 := fun u => (wC cy a key val ord 0 cp efi2 ela2 eco2 ene (va_up ldp 0 0) 0 dbl hlv spl mrg u.1 u.2.1 u.2.2 lne 0 0 llo lhi lsp)) (wr := []) (va_runV C.fix (As := []) (rest := []) ((c_X1_reset l D cy a key val ord 0 cp efi2 ela2 eco2 ene (va_up ldp 0 0) 0 dbl hlv spl mrg lfi lla lco lne lev ptr llo lhi lsp) H.size) (tq_cV (n := 0) C ml_X4_194 im_X1_reset se_X1_reset ini_X1 cd_X1_reset ⟨by decide, by decide, by decide +kernel⟩ ⟨Nat.le_of_ble_eq_true rfl, Nat.le_of_ble_eq_true rfl⟩) ⟨tq_Pc.blind, va_recv hK hP (ci := 1) (q0 := 3) rfl rfl, tq_preC C hK hP hD⟩ rfl rfl hl.1 rfl (lv_room (Nat.le_of_ble_eq_true rfl)) dX4_emptyAll_18 ⟨Nat.le_of_ble_eq_true rfl, Nat.le_of_ble_eq_true rfl⟩) hP hD hS hA [0, 1, 2, 3, 4, 5, 6, 7, 8, 9, 10, 11, 12, 13, 14, 15, 16, 17] [] [0, 1, 2, 3, 4, 5, 6, 7, 8, 9, 10, 11, 12, 13, 14, 15, 16, 17] rfl rfl (by decide) (by decide) (by decide) (fun _ => rfl) (fun u18 H locs hr18 hP hD hS => ?_)
  obtain ⟨lfi2, lla2, lco2⟩ := u18
  try dsimp only at hr18
  have hP : va_P D vwCl (wC cy a key val ord 0 cp efi2 ela2 eco2 ene (va_up ldp 0 0) 0 dbl hlv spl mrg lfi2 lla2 lco2 lne 0 0 llo lhi lsp) H := hP
  have hD : va_D A (wC cy a key val ord 0 cp efi2 ela2 eco2 ene (va_up ldp 0 0) 0 dbl hlv spl mrg lfi2 lla2 lco2 lne 0 0 llo lhi lsp) := hD
  exact tq_vret C (efi2, ela2, eco2, lfi2, lla2, lco2) hP hD hS (⟨hr11, hr18⟩) (Nat.le_of_ble_eq_true rfl) (Nat.le_of_ble_eq_true rfl) dX4_emptyAll_21
end
section

theorem tq_new {p : Program} {l : Launch} {e : Env} {R : Room} {s : State} {m : MethodId} {args : Array Value} {below : List Frame} {meth : Method} {c : Code} {H : Heap} {locs : List Loc} {cells slots : Nat} {Q : State → Prop} {D : va_G} {own : String} {cc : ByteArray} {nL : Nat} {rt : Option FieldType} {A : Nat → Prop} {ws : va_W} {pc : Nat} {ls : Array Slot} {rest : List Value} {tys : List (ClassId × FieldType)}
    (C : tq_C p s m meth c own cc nL rt) {C0 : String} {T : u_T} {ty0 : Nat → FieldType} {N ci index : Nat} (hg : (u_ws C0 T N).all tq_g = true) (hin : ∀ w ∈ u_ws C0 T N, w ∈ lw_tbl) (hty : ∀ k, k < N → parseFieldDescriptor (T k).2.2.1 = some (ty0 k)) (hc : vwCl[ci]? = some (C0, T, N)) (h1 : Cond.classLink own index C0 ∈ lw_tbl) (h2 : Cond.instantiable C0 N ∈ lw_tbl) (h3 : Cond.initialized C0 ∈ lw_tbl)
    (hK : va_K D vwCl tys s) (hP : va_P D vwCl ws H) (hD : va_D A ws) (hS : va_S A s.heap H locs) (hA : ∀ q : Nat, s.heap.size ≤ q → A q) {fs : List Value} (hfs : ∀ j, j < N → defaultValue (ty0 j) = vp_V fs j) (hcells : cells + 1 ≤ R.cells) (hslots : slots + N ≤ R.slots) (hdg : decode cc pc = .ok (.new index, 3))
    (kk : ∀ (q : Nat) (H1 : Heap) (locs1 : List Loc), va_P D vwCl (ws ++ [(q, .inr (ci, fs))]) H1 → va_D A (ws ++ [(q, .inr (ci, fs))]) → va_S A s.heap H1 locs1 → W p l e R s m args below meth c H1 locs1 (cells + 1) (slots + N) Q (F0 m (pc + 3) ls (.ref q :: rest))) : W p l e R s m args below meth c H locs cells slots Q (F0 m pc ls rest) :=
  va_new (Ts := u_ws C0 T N) C.1 C.2.1 (fun w h => C.2.2.2.2.2.2.use (hin w h) (List.all_eq_true.mp hg w h)) (fun _ h => h) ty0 hty C.2.2.2.1 (C.2.2.2.2.2.2.use h1 rfl) (C.2.2.2.2.2.2.use h2 rfl) (C.2.2.2.2.2.2.use h3 rfl) hK hP hD hS hA hc hfs hcells hslots hdg (fun q H1 a b d => kk q H1 locs a b d)

theorem dX2_init_0 : decode cX2_init 0 = .ok (.aload_n 0, 1) := by decide +kernel
theorem dX2_init_1 : decode cX2_init 1 = .ok (.invokespecial 3, 3) := by decide +kernel
theorem dX2_init_4 : decode cX2_init 4 = .ok (.aload_n 0, 1) := by decide +kernel
theorem dX2_init_5 : decode cX2_init 5 = .ok (.sipush 256, 3) := by decide +kernel
theorem dX2_init_8 : decode cX2_init 8 = .ok (.newarray .int, 2) := by decide +kernel
theorem dX2_init_10 : decode cX2_init 10 = .ok (.putfield 9, 3) := by decide +kernel
theorem dX2_init_13 : decode cX2_init 13 = .ok (.aload_n 0, 1) := by decide +kernel
theorem dX2_init_14 : decode cX2_init 14 = .ok (.sipush 256, 3) := by decide +kernel
theorem dX2_init_17 : decode cX2_init 17 = .ok (.newarray .int, 2) := by decide +kernel
theorem dX2_init_19 : decode cX2_init 19 = .ok (.putfield 15, 3) := by decide +kernel
theorem dX2_init_22 : decode cX2_init 22 = .ok (.aload_n 0, 1) := by decide +kernel
theorem dX2_init_23 : decode cX2_init 23 = .ok (.sipush 256, 3) := by decide +kernel
theorem dX2_init_26 : decode cX2_init 26 = .ok (.newarray .int, 2) := by decide +kernel
theorem dX2_init_28 : decode cX2_init 28 = .ok (.putfield 18, 3) := by decide +kernel
theorem dX2_init_31 : decode cX2_init 31 = .ok (.aload_n 0, 1) := by decide +kernel
theorem dX2_init_32 : decode cX2_init 32 = .ok (.bipush 121, 2) := by decide +kernel
theorem dX2_init_34 : decode cX2_init 34 = .ok (.newarray .int, 2) := by decide +kernel
theorem dX2_init_36 : decode cX2_init 36 = .ok (.putfield 21, 3) := by decide +kernel
theorem dX2_init_39 : decode cX2_init 39 = .ok (.aload_n 0, 1) := by decide +kernel
theorem dX2_init_40 : decode cX2_init 40 = .ok (.aload_n 1, 1) := by decide +kernel
theorem dX2_init_41 : decode cX2_init 41 = .ok (.putfield 24, 3) := by decide +kernel
theorem dX2_init_44 : decode cX2_init 44 = .ok (.return_, 1) := by decide +kernel
set_option maxHeartbeats 4000000 in
set_option maxRecDepth 100000 in
theorem c_X2_init (l : Launch) (D : va_G) (cy : ClassId) (o9 sa : Nat) : tq_V (S := Nat × Nat × Nat × Nat) l yX2_init cX2_init 2 1 20 4 889 D cy [(o9, .inr (2, [.null, .null, .null, .null, .null]))] [.ref o9, .ref sa] (fun _ => True) (fun u => [(o9, .inr (2, [.ref (sa), .ref (u.1), .ref (u.2.1), .ref (u.2.2.1), .ref (u.2.2.2)])), (u.1, .inl (cy, 256, .inl (fun j => nI ((fun _ => 0) j)))), (u.2.1, .inl (cy, 256, .inl (fun j => nI ((fun _ => 0) j)))), (u.2.2.1, .inl (cy, 256, .inl (fun j => nI ((fun _ => 0) j)))), (u.2.2.2, .inl (cy, 121, .inl (fun j => nI ((fun _ => 0) j))))]) := by
  refine tq_V.mk (by decide) (Nat.le_of_ble_eq_true rfl) ?_
  intro p e s m args below meth c A C hin hP hK hD hS hA ls hl
  obtain ⟨hx, hb, hml, hown, hrt, hlk, hT⟩ := id C
  have hl : lv_has ls 2 [(0, .ref o9), (1, .ref sa)] := hl
  refine lv_aload_n hx hb dX2_init_0 rfl (lv_at hl 0 rfl) ?_
  refine W.objInit hx hb hown (hT.use ml_X2_3 rfl) (hT.use im_Object_init rfl) (hT.use cd_Object_init rfl) rfl (by rw [hml]; exact hl.1) rfl dX2_init_1 (Nat.le_of_ble_eq_true rfl) (Nat.le_of_ble_eq_true rfl) ?_
  refine W.eq (g2 := F0 m 4 ls []) rfl ?_
  refine lv_aload_n hx hb dX2_init_4 rfl (lv_at hl 0 rfl) ?_
  refine lv_sipush (v := nI 256) hx hb dX2_init_5 (by decide) ?_
  refine tq_newa (n := 256) C hK hP hD hS hA (by decide) (Nat.le_of_ble_eq_true rfl) (Nat.le_of_ble_eq_true rfl) dX2_init_8 (fun q8 H hP hD hS => ?_)
  have hP : va_P D vwCl [(o9, .inr (2, [.null, .null, .null, .null, .null])), (q8, .inl (cy, 256, .inl (fun j => nI ((fun _ => 0) j))))] H := hP
  have hD : va_D A [(o9, .inr (2, [.null, .null, .null, .null, .null])), (q8, .inl (cy, 256, .inl (fun j => nI ((fun _ => 0) j))))] := hD
  refine tq_putF (v := .ref (q8)) (C0 := RX2) (T := TX2) (N := 5) (ci := 2) (k := 1) (ty := (.array .int)) C hin gX2 inX2 tyX2_ok nmX2 rfl (by decide) rfl rfl fl_X2_9 rfl (by decide +kernel) hK hP hD hS 0 rfl rfl rfl (Nat.le_of_ble_eq_true rfl) dX2_init_10 (fun H locs hP hD hS => ?_)
  have hP : va_P D vwCl [(o9, .inr (2, [.null, .ref (q8), .null, .null, .null])), (q8, .inl (cy, 256, .inl (fun j => nI ((fun _ => 0) j))))] H := hP
  have hD : va_D A [(o9, .inr (2, [.null, .ref (q8), .null, .null, .null])), (q8, .inl (cy, 256, .inl (fun j => nI ((fun _ => 0) j))))] := hD
  refine lv_aload_n hx hb dX2_init_13 rfl (lv_at hl 0 rfl) ?_
  refine lv_sipush (v := nI 256) hx hb dX2_init_14 (by decide) ?_
  refine tq_newa (n := 256) C hK hP hD hS hA (by decide) (Nat.le_of_ble_eq_true rfl) (Nat.le_of_ble_eq_true rfl) dX2_init_17 (fun q17 H hP hD hS => ?_)
  have hP : va_P D vwCl [(o9, .inr (2, [.null, .ref (q8), .null, .null, .null])), (q8, .inl (cy, 256, .inl (fun j => nI ((fun _ => 0) j)))), (q17, .inl (cy, 256, .inl (fun j => nI ((fun _ => 0) j))))] H := hP
  have hD : va_D A [(o9, .inr (2, [.null, .ref (q8), .null, .null, .null])), (q8, .inl (cy, 256, .inl (fun j => nI ((fun _ => 0) j)))), (q17, .inl (cy, 256, .inl (fun j => nI ((fun _ => 0) j))))] := hD
  refine tq_putF (v := .ref (q17)) (C0 := RX2) (T := TX2) (N := 5) (ci := 2) (k := 2) (ty := (.array .int)) C hin gX2 inX2 tyX2_ok nmX2 rfl (by decide) rfl rfl fl_X2_15 rfl (by decide +kernel) hK hP hD hS 0 rfl rfl rfl (Nat.le_of_ble_eq_true rfl) dX2_init_19 (fun H locs hP hD hS => ?_)
  have hP : va_P D vwCl [(o9, .inr (2, [.null, .ref (q8), .ref (q17), .null, .null])), (q8, .inl (cy, 256, .inl (fun j => nI ((fun _ => 0) j)))), (q17, .inl (cy, 256, .inl (fun j => nI ((fun _ => 0) j))))] H := hP
  have hD : va_D A [(o9, .inr (2, [.null, .ref (q8), .ref (q17), .null, .null])), (q8, .inl (cy, 256, .inl (fun j => nI ((fun _ => 0) j)))), (q17, .inl (cy, 256, .inl (fun j => nI ((fun _ => 0) j))))] := hD
  refine lv_aload_n hx hb dX2_init_22 rfl (lv_at hl 0 rfl) ?_
  refine lv_sipush (v := nI 256) hx hb dX2_init_23 (by decide) ?_
  refine tq_newa (n := 256) C hK hP hD hS hA (by decide) (Nat.le_of_ble_eq_true rfl) (Nat.le_of_ble_eq_true rfl) dX2_init_26 (fun q26 H hP hD hS => ?_)
  have hP : va_P D vwCl [(o9, .inr (2, [.null, .ref (q8), .ref (q17), .null, .null])), (q8, .inl (cy, 256, .inl (fun j => nI ((fun _ => 0) j)))), (q17, .inl (cy, 256, .inl (fun j => nI ((fun _ => 0) j)))), (q26, .inl (cy, 256, .inl (fun j => nI ((fun _ => 0) j))))] H := hP
  have hD : va_D A [(o9, .inr (2, [.null, .ref (q8), .ref (q17), .null, .null])), (q8, .inl (cy, 256, .inl (fun j => nI ((fun _ => 0) j)))), (q17, .inl (cy, 256, .inl (fun j => nI ((fun _ => 0) j)))), (q26, .inl (cy, 256, .inl (fun j => nI ((fun _ => 0) j))))] := hD
  refine tq_putF (v := .ref (q26)) (C0 := RX2) (T := TX2) (N := 5) (ci := 2) (k := 3) (ty := (.array .int)) C hin gX2 inX2 tyX2_ok nmX2 rfl (by decide) rfl rfl fl_X2_18 rfl (by decide +kernel) hK hP hD hS 0 rfl rfl rfl (Nat.le_of_ble_eq_true rfl) dX2_init_28 (fun H locs hP hD hS => ?_)
  have hP : va_P D vwCl [(o9, .inr (2, [.null, .ref (q8), .ref (q17), .ref (q26), .null])), (q8, .inl (cy, 256, .inl (fun j => nI ((fun _ => 0) j)))), (q17, .inl (cy, 256, .inl (fun j => nI ((fun _ => 0) j)))), (q26, .inl (cy, 256, .inl (fun j => nI ((fun _ => 0) j))))] H := hP
  have hD : va_D A [(o9, .inr (2, [.null, .ref (q8), .ref (q17), .ref (q26), .null])), (q8, .inl (cy, 256, .inl (fun j => nI ((fun _ => 0) j)))), (q17, .inl (cy, 256, .inl (fun j => nI ((fun _ => 0) j)))), (q26, .inl (cy, 256, .inl (fun j => nI ((fun _ => 0) j))))] := hD
  refine lv_aload_n hx hb dX2_init_31 rfl (lv_at hl 0 rfl) ?_
  refine lv_bipush (v := nI 121) hx hb dX2_init_32 (by decide) ?_
  refine tq_newa (n := 121) C hK hP hD hS hA (by decide) (Nat.le_of_ble_eq_true rfl) (Nat.le_of_ble_eq_true rfl) dX2_init_34 (fun q34 H hP hD hS => ?_)
  have hP : va_P D vwCl [(o9, .inr (2, [.null, .ref (q8), .ref (q17), .ref (q26), .null])), (q8, .inl (cy, 256, .inl (fun j => nI ((fun _ => 0) j)))), (q17, .inl (cy, 256, .inl (fun j => nI ((fun _ => 0) j)))), (q26, .inl (cy, 256, .inl (fun j => nI ((fun _ => 0) j)))), (q34, .inl (cy, 121, .inl (fun j => nI ((fun _ => 0) j))))] H := hP
  have hD : va_D A [(o9, .inr (2, [.null, .ref (q8), .ref (q17), .ref (q26), .null])), (q8, .inl (cy, 256, .inl (fun j => nI ((fun _ => 0) j)))), (q17, .inl (cy, 256, .inl (fun j => nI ((fun _ => 0) j)))), (q26, .inl (cy, 256, .inl (fun j => nI ((fun _ => 0) j)))), (q34, .inl (cy, 121, .inl (fun j => nI ((fun _ => 0) j))))] := hD
  refine tq_putF (v := .ref (q34)) (C0 := RX2) (T := TX2) (N := 5) (ci := 2) (k := 4) (ty := (.array .int)) C hin gX2 inX2 tyX2_ok nmX2 rfl (by decide) rfl rfl fl_X2_21 rfl (by decide +kernel) hK hP hD hS 0 rfl rfl rfl (Nat.le_of_ble_eq_true rfl) dX2_init_36 (fun H locs hP hD hS => ?_)
  have hP : va_P D vwCl [(o9, .inr (2, [.null, .ref (q8), .ref (q17), .ref (q26), .ref (q34)])), (q8, .inl (cy, 256, .inl (fun j => nI ((fun _ => 0) j)))), (q17, .inl (cy, 256, .inl (fun j => nI ((fun _ => 0) j)))), (q26, .inl (cy, 256, .inl (fun j => nI ((fun _ => 0) j)))), (q34, .inl (cy, 121, .inl (fun j => nI ((fun _ => 0) j))))] H := hP
  have hD : va_D A [(o9, .inr (2, [.null, .ref (q8), .ref (q17), .ref (q26), .ref (q34)])), (q8, .inl (cy, 256, .inl (fun j => nI ((fun _ => 0) j)))), (q17, .inl (cy, 256, .inl (fun j => nI ((fun _ => 0) j)))), (q26, .inl (cy, 256, .inl (fun j => nI ((fun _ => 0) j)))), (q34, .inl (cy, 121, .inl (fun j => nI ((fun _ => 0) j))))] := hD
  refine lv_aload_n hx hb dX2_init_39 rfl (lv_at hl 0 rfl) ?_
  refine lv_aload_n hx hb dX2_init_40 rfl (lv_at hl 1 rfl) ?_
  refine tq_putF (v := .ref (sa)) (C0 := RX2) (T := TX2) (N := 5) (ci := 2) (k := 0) (ty := (.object "TwinHashTables$Store")) C hin gX2 inX2 tyX2_ok nmX2 rfl (by decide) rfl rfl fl_X2_24 rfl (by decide +kernel) hK hP hD hS 0 rfl rfl rfl (Nat.le_of_ble_eq_true rfl) dX2_init_41 (fun H locs hP hD hS => ?_)
  have hP : va_P D vwCl [(o9, .inr (2, [.ref (sa), .ref (q8), .ref (q17), .ref (q26), .ref (q34)])), (q8, .inl (cy, 256, .inl (fun j => nI ((fun _ => 0) j)))), (q17, .inl (cy, 256, .inl (fun j => nI ((fun _ => 0) j)))), (q26, .inl (cy, 256, .inl (fun j => nI ((fun _ => 0) j)))), (q34, .inl (cy, 121, .inl (fun j => nI ((fun _ => 0) j))))] H := hP
  have hD : va_D A [(o9, .inr (2, [.ref (sa), .ref (q8), .ref (q17), .ref (q26), .ref (q34)])), (q8, .inl (cy, 256, .inl (fun j => nI ((fun _ => 0) j)))), (q17, .inl (cy, 256, .inl (fun j => nI ((fun _ => 0) j)))), (q26, .inl (cy, 256, .inl (fun j => nI ((fun _ => 0) j)))), (q34, .inl (cy, 121, .inl (fun j => nI ((fun _ => 0) j))))] := hD
  exact tq_vret C (q8, q17, q26, q34) hP hD hS trivial (Nat.le_of_ble_eq_true rfl) (Nat.le_of_ble_eq_true rfl) dX2_init_44
theorem dX3_init_0 : decode cX3_init 0 = .ok (.aload_n 0, 1) := by decide +kernel
theorem dX3_init_1 : decode cX3_init 1 = .ok (.invokespecial 3, 3) := by decide +kernel
theorem dX3_init_4 : decode cX3_init 4 = .ok (.aload_n 0, 1) := by decide +kernel
theorem dX3_init_5 : decode cX3_init 5 = .ok (.bipush 121, 2) := by decide +kernel
theorem dX3_init_7 : decode cX3_init 7 = .ok (.newarray .int, 2) := by decide +kernel
theorem dX3_init_9 : decode cX3_init 9 = .ok (.putfield 9, 3) := by decide +kernel
theorem dX3_init_12 : decode cX3_init 12 = .ok (.aload_n 0, 1) := by decide +kernel
theorem dX3_init_13 : decode cX3_init 13 = .ok (.bipush 121, 2) := by decide +kernel
theorem dX3_init_15 : decode cX3_init 15 = .ok (.newarray .int, 2) := by decide +kernel
theorem dX3_init_17 : decode cX3_init 17 = .ok (.putfield 15, 3) := by decide +kernel
theorem dX3_init_20 : decode cX3_init 20 = .ok (.aload_n 0, 1) := by decide +kernel
theorem dX3_init_21 : decode cX3_init 21 = .ok (.bipush 120, 2) := by decide +kernel
theorem dX3_init_23 : decode cX3_init 23 = .ok (.newarray .int, 2) := by decide +kernel
theorem dX3_init_25 : decode cX3_init 25 = .ok (.putfield 18, 3) := by decide +kernel
theorem dX3_init_28 : decode cX3_init 28 = .ok (.aload_n 0, 1) := by decide +kernel
theorem dX3_init_29 : decode cX3_init 29 = .ok (.iconst 0, 1) := by decide +kernel
theorem dX3_init_30 : decode cX3_init 30 = .ok (.putfield 21, 3) := by decide +kernel
theorem dX3_init_33 : decode cX3_init 33 = .ok (.aload_n 0, 1) := by decide +kernel
theorem dX3_init_34 : decode cX3_init 34 = .ok (.iconst 3, 1) := by decide +kernel
theorem dX3_init_35 : decode cX3_init 35 = .ok (.putfield 25, 3) := by decide +kernel
theorem dX3_init_38 : decode cX3_init 38 = .ok (.iconst 0, 1) := by decide +kernel
theorem dX3_init_39 : decode cX3_init 39 = .ok (.istore_n 1, 1) := by decide +kernel
theorem dX3_init_40 : decode cX3_init 40 = .ok (.iload_n 1, 1) := by decide +kernel
theorem dX3_init_41 : decode cX3_init 41 = .ok (.bipush 120, 2) := by decide +kernel
theorem dX3_init_43 : decode cX3_init 43 = .ok (.if_icmp .ge 18, 3) := by decide +kernel
theorem dX3_init_46 : decode cX3_init 46 = .ok (.aload_n 0, 1) := by decide +kernel
theorem dX3_init_47 : decode cX3_init 47 = .ok (.getfield 18, 3) := by decide +kernel
theorem dX3_init_50 : decode cX3_init 50 = .ok (.iload_n 1, 1) := by decide +kernel
theorem dX3_init_51 : decode cX3_init 51 = .ok (.iload_n 1, 1) := by decide +kernel
theorem dX3_init_52 : decode cX3_init 52 = .ok (.iconst 1, 1) := by decide +kernel
theorem dX3_init_53 : decode cX3_init 53 = .ok (.iadd, 1) := by decide +kernel
theorem dX3_init_54 : decode cX3_init 54 = .ok (.iastore, 1) := by decide +kernel
theorem dX3_init_55 : decode cX3_init 55 = .ok (.iinc 1 1, 3) := by decide +kernel
theorem dX3_init_58 : decode cX3_init 58 = .ok (.goto (-18), 3) := by decide +kernel
theorem dX3_init_61 : decode cX3_init 61 = .ok (.return_, 1) := by decide +kernel
set_option maxHeartbeats 4000000 in
set_option maxRecDepth 100000 in
theorem c_X3_init (l : Launch) (D : va_G) (cy : ClassId) (o9 : Nat) : tq_V (S := Nat × Nat × Nat) l yX3_init cX3_init 2 1 20 3 362 D cy [(o9, .inr (3, [.null, .null, .null, .int (nI (0)), .int (nI (0))]))] [.ref o9] (fun _ => True) (fun u => [(o9, .inr (3, [.ref (u.1), .ref (u.2.1), .ref (u.2.2), .int (nI (0)), .int (nI (3))])), (u.1, .inl (cy, 121, .inl (fun j => nI ((fun _ => 0) j)))), (u.2.1, .inl (cy, 121, .inl (fun j => nI ((fun _ => 0) j)))), (u.2.2, .inl (cy, 120, .inl (fun j => nI ((fun j => if j < 120 then j + 1 else 0) j))))]) := by
  refine tq_V.mk (by decide) (Nat.le_of_ble_eq_true rfl) ?_
  intro p e s m args below meth c A C hin hP hK hD hS hA ls hl
  obtain ⟨hx, hb, hml, hown, hrt, hlk, hT⟩ := id C
  have hl : lv_has ls 2 [(0, .ref o9)] := hl
  refine lv_aload_n hx hb dX3_init_0 rfl (lv_at hl 0 rfl) ?_
  refine W.objInit hx hb hown (hT.use ml_X3_3 rfl) (hT.use im_Object_init rfl) (hT.use cd_Object_init rfl) rfl (by rw [hml]; exact hl.1) rfl dX3_init_1 (Nat.le_of_ble_eq_true rfl) (Nat.le_of_ble_eq_true rfl) ?_
  refine W.eq (g2 := F0 m 4 ls []) rfl ?_
  refine lv_aload_n hx hb dX3_init_4 rfl (lv_at hl 0 rfl) ?_
  refine lv_bipush (v := nI 121) hx hb dX3_init_5 (by decide) ?_
  refine tq_newa (n := 121) C hK hP hD hS hA (by decide) (Nat.le_of_ble_eq_true rfl) (Nat.le_of_ble_eq_true rfl) dX3_init_7 (fun q7 H hP hD hS => ?_)
  have hP : va_P D vwCl [(o9, .inr (3, [.null, .null, .null, .int (nI (0)), .int (nI (0))])), (q7, .inl (cy, 121, .inl (fun j => nI ((fun _ => 0) j))))] H := hP
  have hD : va_D A [(o9, .inr (3, [.null, .null, .null, .int (nI (0)), .int (nI (0))])), (q7, .inl (cy, 121, .inl (fun j => nI ((fun _ => 0) j))))] := hD
  refine tq_putF (v := .ref (q7)) (C0 := RX3) (T := TX3) (N := 5) (ci := 3) (k := 0) (ty := (.array .int)) C hin gX3 inX3 tyX3_ok nmX3 rfl (by decide) rfl rfl fl_X3_9 rfl (by decide +kernel) hK hP hD hS 0 rfl rfl rfl (Nat.le_of_ble_eq_true rfl) dX3_init_9 (fun H locs hP hD hS => ?_)
  have hP : va_P D vwCl [(o9, .inr (3, [.ref (q7), .null, .null, .int (nI (0)), .int (nI (0))])), (q7, .inl (cy, 121, .inl (fun j => nI ((fun _ => 0) j))))] H := hP
  have hD : va_D A [(o9, .inr (3, [.ref (q7), .null, .null, .int (nI (0)), .int (nI (0))])), (q7, .inl (cy, 121, .inl (fun j => nI ((fun _ => 0) j))))] := hD
  refine lv_aload_n hx hb dX3_init_12 rfl (lv_at hl 0 rfl) ?_
  refine lv_bipush (v := nI 121) hx hb dX3_init_13 (by decide) ?_
  refine tq_newa (n := 121) C hK hP hD hS hA (by decide) (Nat.le_of_ble_eq_true rfl) (Nat.le_of_ble_eq_true rfl) dX3_init_15 (fun q15 H hP hD hS => ?_)
  have hP : va_P D vwCl [(o9, .inr (3, [.ref (q7), .null, .null, .int (nI (0)), .int (nI (0))])), (q7, .inl (cy, 121, .inl (fun j => nI ((fun _ => 0) j)))), (q15, .inl (cy, 121, .inl (fun j => nI ((fun _ => 0) j))))] H := hP
  have hD : va_D A [(o9, .inr (3, [.ref (q7), .null, .null, .int (nI (0)), .int (nI (0))])), (q7, .inl (cy, 121, .inl (fun j => nI ((fun _ => 0) j)))), (q15, .inl (cy, 121, .inl (fun j => nI ((fun _ => 0) j))))] := hD
  refine tq_putF (v := .ref (q15)) (C0 := RX3) (T := TX3) (N := 5) (ci := 3) (k := 1) (ty := (.array .int)) C hin gX3 inX3 tyX3_ok nmX3 rfl (by decide) rfl rfl fl_X3_15 rfl (by decide +kernel) hK hP hD hS 0 rfl rfl rfl (Nat.le_of_ble_eq_true rfl) dX3_init_17 (fun H locs hP hD hS => ?_)
  have hP : va_P D vwCl [(o9, .inr (3, [.ref (q7), .ref (q15), .null, .int (nI (0)), .int (nI (0))])), (q7, .inl (cy, 121, .inl (fun j => nI ((fun _ => 0) j)))), (q15, .inl (cy, 121, .inl (fun j => nI ((fun _ => 0) j))))] H := hP
  have hD : va_D A [(o9, .inr (3, [.ref (q7), .ref (q15), .null, .int (nI (0)), .int (nI (0))])), (q7, .inl (cy, 121, .inl (fun j => nI ((fun _ => 0) j)))), (q15, .inl (cy, 121, .inl (fun j => nI ((fun _ => 0) j))))] := hD
  refine lv_aload_n hx hb dX3_init_20 rfl (lv_at hl 0 rfl) ?_
  refine lv_bipush (v := nI 120) hx hb dX3_init_21 (by decide) ?_
  refine tq_newa (n := 120) C hK hP hD hS hA (by decide) (Nat.le_of_ble_eq_true rfl) (Nat.le_of_ble_eq_true rfl) dX3_init_23 (fun q23 H hP hD hS => ?_)
  have hP : va_P D vwCl [(o9, .inr (3, [.ref (q7), .ref (q15), .null, .int (nI (0)), .int (nI (0))])), (q7, .inl (cy, 121, .inl (fun j => nI ((fun _ => 0) j)))), (q15, .inl (cy, 121, .inl (fun j => nI ((fun _ => 0) j)))), (q23, .inl (cy, 120, .inl (fun j => nI ((fun _ => 0) j))))] H := hP
  have hD : va_D A [(o9, .inr (3, [.ref (q7), .ref (q15), .null, .int (nI (0)), .int (nI (0))])), (q7, .inl (cy, 121, .inl (fun j => nI ((fun _ => 0) j)))), (q15, .inl (cy, 121, .inl (fun j => nI ((fun _ => 0) j)))), (q23, .inl (cy, 120, .inl (fun j => nI ((fun _ => 0) j))))] := hD
  refine tq_putF (v := .ref (q23)) (C0 := RX3) (T := TX3) (N := 5) (ci := 3) (k := 2) (ty := (.array .int)) C hin gX3 inX3 tyX3_ok nmX3 rfl (by decide) rfl rfl fl_X3_18 rfl (by decide +kernel) hK hP hD hS 0 rfl rfl rfl (Nat.le_of_ble_eq_true rfl) dX3_init_25 (fun H locs hP hD hS => ?_)
  have hP : va_P D vwCl [(o9, .inr (3, [.ref (q7), .ref (q15), .ref (q23), .int (nI (0)), .int (nI (0))])), (q7, .inl (cy, 121, .inl (fun j => nI ((fun _ => 0) j)))), (q15, .inl (cy, 121, .inl (fun j => nI ((fun _ => 0) j)))), (q23, .inl (cy, 120, .inl (fun j => nI ((fun _ => 0) j))))] H := hP
  have hD : va_D A [(o9, .inr (3, [.ref (q7), .ref (q15), .ref (q23), .int (nI (0)), .int (nI (0))])), (q7, .inl (cy, 121, .inl (fun j => nI ((fun _ => 0) j)))), (q15, .inl (cy, 121, .inl (fun j => nI ((fun _ => 0) j)))), (q23, .inl (cy, 120, .inl (fun j => nI ((fun _ => 0) j))))] := hD
  refine lv_aload_n hx hb dX3_init_28 rfl (lv_at hl 0 rfl) ?_
  refine lv_iconst (v := nI 0) hx hb dX3_init_29 (by decide) ?_
  refine tq_put (v := .int (nI (0))) (C0 := RX3) (T := TX3) (N := 5) (ci := 3) (k := 3) (ty := .int) C gX3 inX3 tyX3_ok nmX3 rfl (by decide) rfl fl_X3_21 rfl (by decide +kernel) hK hP hD hS 0 rfl rfl rfl (Nat.le_of_ble_eq_true rfl) dX3_init_30 (fun H locs hP hD hS => ?_)
  have hP : va_P D vwCl [(o9, .inr (3, [.ref (q7), .ref (q15), .ref (q23), .int (nI (0)), .int (nI (0))])), (q7, .inl (cy, 121, .inl (fun j => nI ((fun _ => 0) j)))), (q15, .inl (cy, 121, .inl (fun j => nI ((fun _ => 0) j)))), (q23, .inl (cy, 120, .inl (fun j => nI ((fun _ => 0) j))))] H := hP
  have hD : va_D A [(o9, .inr (3, [.ref (q7), .ref (q15), .ref (q23), .int (nI (0)), .int (nI (0))])), (q7, .inl (cy, 121, .inl (fun j => nI ((fun _ => 0) j)))), (q15, .inl (cy, 121, .inl (fun j => nI ((fun _ => 0) j)))), (q23, .inl (cy, 120, .inl (fun j => nI ((fun _ => 0) j))))] := hD
  refine lv_aload_n hx hb dX3_init_33 rfl (lv_at hl 0 rfl) ?_
  refine lv_iconst (v := nI 3) hx hb dX3_init_34 (by decide) ?_
  refine tq_put (v := .int (nI (3))) (C0 := RX3) (T := TX3) (N := 5) (ci := 3) (k := 4) (ty := .int) C gX3 inX3 tyX3_ok nmX3 rfl (by decide) rfl fl_X3_25 rfl (by decide +kernel) hK hP hD hS 0 rfl rfl rfl (Nat.le_of_ble_eq_true rfl) dX3_init_35 (fun H locs hP hD hS => ?_)
  have hP : va_P D vwCl [(o9, .inr (3, [.ref (q7), .ref (q15), .ref (q23), .int (nI (0)), .int (nI (3))])), (q7, .inl (cy, 121, .inl (fun j => nI ((fun _ => 0) j)))), (q15, .inl (cy, 121, .inl (fun j => nI ((fun _ => 0) j)))), (q23, .inl (cy, 120, .inl (fun j => nI ((fun _ => 0) j))))] H := hP
  have hD : va_D A [(o9, .inr (3, [.ref (q7), .ref (q15), .ref (q23), .int (nI (0)), .int (nI (3))])), (q7, .inl (cy, 121, .inl (fun j => nI ((fun _ => 0) j)))), (q15, .inl (cy, 121, .inl (fun j => nI ((fun _ => 0) j)))), (q23, .inl (cy, 120, .inl (fun j => nI ((fun _ => 0) j))))] := hD
  refine lv_iconst (v := nI 0) hx hb dX3_init_38 (by decide) ?_
  refine lv_istore_n (lv' := [(1, .int (nI (0))), (0, .ref (o9))]) hx hb dX3_init_39 rfl hl (by decide) rfl (fun ls hl => ?_)
  suffices hlp : ∀ (n : Nat) (i : Nat) (f : Nat → Nat), 120 - i < n → i ≤ 120 → (∀ j, f j = if j < i then j + 1 else 0) → ∀ (H : Heap) (locs : List Loc), va_P D vwCl [(o9, .inr (3, [.ref (q7), .ref (q15), .ref (q23), .int (nI (0)), .int (nI (3))])), (q7, .inl (cy, 121, .inl (fun j => nI ((fun _ => 0) j)))), (q15, .inl (cy, 121, .inl (fun j => nI ((fun _ => 0) j)))), (q23, .inl (cy, 120, .inl (fun j => nI (f j))))] H → va_D A [(o9, .inr (3, [.ref (q7), .ref (q15), .ref (q23), .int (nI (0)), .int (nI (3))])), (q7, .inl (cy, 121, .inl (fun j => nI ((fun _ => 0) j)))), (q15, .inl (cy, 121, .inl (fun j => nI ((fun _ => 0) j)))), (q23, .inl (cy, 120, .inl (fun j => nI (f j))))] → va_S A s.heap H locs → ∀ ls : Array Slot, lv_has ls 2 [(0, .ref o9), (1, .int (nI (i)))] → W p l e ({ frames := 1, cells := 3, slots := 362, locals := 20 } : Room) s m args below meth c H locs (((0 + 1) + 1) + 1) (((0 + 121) + 121) + 120) (MQ below (va_Qv (S := Nat × Nat × Nat) (fun _ => True) (tq_B D A (fun u => [(o9, .inr (3, [.ref (u.1), .ref (u.2.1), .ref (u.2.2), .int (nI (0)), .int (nI (3))])), (u.1, .inl (cy, 121, .inl (fun j => nI ((fun _ => 0) j)))), (u.2.1, .inl (cy, 121, .inl (fun j => nI ((fun _ => 0) j)))), (u.2.2, .inl (cy, 120, .inl (fun j => nI ((fun j => if j < 120 then j + 1 else 0) j))))])) A) args s 3 362 A) (F0 m 40 ls []) from
    hlp 121 0 (fun _ => 0) (by omega) (by omega) (fun j => by rw [if_neg (by omega)]) _ _ hP hD hS _ (lv_sub hl [1, 0] rfl)
  intro n
  induction n with
  | zero => intro i f hf; exact absurd hf (Nat.not_lt_zero _)
  | succ n ih =>
    intro i f hf hi hfe H locs hP hD hS ls hl
    refine lv_iload_n hx hb dX3_init_40 rfl (lv_at hl 1 rfl) ?_
    refine lv_bipush (v := nI 120) hx hb dX3_init_41 (by decide) ?_
    refine tq_icmp_ge (tgt := 61) C (by omega) (by omega) dX3_init_43 (by decide) (fun h43 => ?_) (fun h43 => ?_)
    · have hfz : f = fun j => if j < 120 then j + 1 else 0 := funext (fun j => by rw [hfe j, show i = 120 from by omega])
      subst hfz
      exact tq_vret C (q7, q15, q23) hP hD hS trivial (Nat.le_of_ble_eq_true rfl) (Nat.le_of_ble_eq_true rfl) dX3_init_61
    · refine lv_aload_n hx hb dX3_init_46 rfl (lv_at hl 0 rfl) ?_
      refine tq_get (C0 := RX3) (T := TX3) (N := 5) (ci := 3) (k := 2) C gX3 inX3 rfl (by decide) rfl fl_X3_18 hK hP 0 rfl rfl dX3_init_47 ?_
      refine lv_iload_n hx hb dX3_init_50 rfl (lv_at hl 1 rfl) ?_
      refine lv_iload_n hx hb dX3_init_51 rfl (lv_at hl 1 rfl) ?_
      refine lv_iconst (v := nI 1) hx hb dX3_init_52 (by decide) ?_
      refine tq_iadd C dX3_init_53 ?_
      refine tq_iast (n := 120) (i := i) (v := i + 1) (f := f) C hK hP hD hS 3 0 rfl rfl (by omega) (Nat.le_of_ble_eq_true rfl) dX3_init_54 (fun H locs hP hD hS => ?_)
      have hP : va_P D vwCl [(o9, .inr (3, [.ref (q7), .ref (q15), .ref (q23), .int (nI (0)), .int (nI (3))])), (q7, .inl (cy, 121, .inl (fun j => nI ((fun _ => 0) j)))), (q15, .inl (cy, 121, .inl (fun j => nI ((fun _ => 0) j)))), (q23, .inl (cy, 120, .inl (fun j => nI ((va_up f i (i + 1)) j))))] H := hP
      have hD : va_D A [(o9, .inr (3, [.ref (q7), .ref (q15), .ref (q23), .int (nI (0)), .int (nI (3))])), (q7, .inl (cy, 121, .inl (fun j => nI ((fun _ => 0) j)))), (q15, .inl (cy, 121, .inl (fun j => nI ((fun _ => 0) j)))), (q23, .inl (cy, 120, .inl (fun j => nI ((va_up f i (i + 1)) j))))] := hD
      refine lv_iinc (v := nI (i + 1)) (lv' := [(1, .int (nI (i + 1))), (0, .ref o9)]) hx hb dX3_init_55 hl (k := 1) rfl (tq_inc1 _) (by decide) rfl (fun ls hl => ?_)
      refine lv_goto (tgt := 40) hx hb dX3_init_58 (by decide) ?_
      exact ih (i + 1) (va_up f i (i + 1)) (by omega) (by omega) (fun j => by
        by_cases z : j = i
        · rw [z, up_s, if_pos (by omega)]
        · rw [up_n _ _ z, hfe j]; by_cases y : j < i
          · rw [if_pos y, if_pos (by omega)]
          · rw [if_neg y, if_neg (by omega)]) _ _ hP hD hS _ (lv_sub hl [1, 0] rfl)
theorem dX0_init_0 : decode cX0_init 0 = .ok (.aload_n 0, 1) := by decide +kernel
theorem dX0_init_1 : decode cX0_init 1 = .ok (.invokespecial 3, 3) := by decide +kernel
theorem dX0_init_4 : decode cX0_init 4 = .ok (.aload_n 0, 1) := by decide +kernel
theorem dX0_init_5 : decode cX0_init 5 = .ok (.sipush 256, 3) := by decide +kernel
theorem dX0_init_8 : decode cX0_init 8 = .ok (.newarray .int, 2) := by decide +kernel
theorem dX0_init_10 : decode cX0_init 10 = .ok (.putfield 9, 3) := by decide +kernel
theorem dX0_init_13 : decode cX0_init 13 = .ok (.aload_n 0, 1) := by decide +kernel
theorem dX0_init_14 : decode cX0_init 14 = .ok (.iconst 0, 1) := by decide +kernel
theorem dX0_init_15 : decode cX0_init 15 = .ok (.putfield 15, 3) := by decide +kernel
theorem dX0_init_18 : decode cX0_init 18 = .ok (.aload_n 0, 1) := by decide +kernel
theorem dX0_init_19 : decode cX0_init 19 = .ok (.iconst 0, 1) := by decide +kernel
theorem dX0_init_20 : decode cX0_init 20 = .ok (.putfield 19, 3) := by decide +kernel
theorem dX0_init_23 : decode cX0_init 23 = .ok (.aload_n 0, 1) := by decide +kernel
theorem dX0_init_24 : decode cX0_init 24 = .ok (.iconst 0, 1) := by decide +kernel
theorem dX0_init_25 : decode cX0_init 25 = .ok (.putfield 22, 3) := by decide +kernel
theorem dX0_init_28 : decode cX0_init 28 = .ok (.aload_n 0, 1) := by decide +kernel
theorem dX0_init_29 : decode cX0_init 29 = .ok (.iconst 0, 1) := by decide +kernel
theorem dX0_init_30 : decode cX0_init 30 = .ok (.putfield 25, 3) := by decide +kernel
theorem dX0_init_33 : decode cX0_init 33 = .ok (.aload_n 0, 1) := by decide +kernel
theorem dX0_init_34 : decode cX0_init 34 = .ok (.iconst 0, 1) := by decide +kernel
theorem dX0_init_35 : decode cX0_init 35 = .ok (.putfield 28, 3) := by decide +kernel
theorem dX0_init_38 : decode cX0_init 38 = .ok (.aload_n 0, 1) := by decide +kernel
theorem dX0_init_39 : decode cX0_init 39 = .ok (.aload_n 1, 1) := by decide +kernel
theorem dX0_init_40 : decode cX0_init 40 = .ok (.putfield 31, 3) := by decide +kernel
theorem dX0_init_43 : decode cX0_init 43 = .ok (.aload_n 0, 1) := by decide +kernel
theorem dX0_init_44 : decode cX0_init 44 = .ok (.new 35, 3) := by decide +kernel
theorem dX0_init_47 : decode cX0_init 47 = .ok (.dup, 1) := by decide +kernel
theorem dX0_init_48 : decode cX0_init 48 = .ok (.aload_n 1, 1) := by decide +kernel
theorem dX0_init_49 : decode cX0_init 49 = .ok (.invokespecial 37, 3) := by decide +kernel
theorem dX0_init_52 : decode cX0_init 52 = .ok (.putfield 40, 3) := by decide +kernel
theorem dX0_init_55 : decode cX0_init 55 = .ok (.return_, 1) := by decide +kernel
set_option maxHeartbeats 4000000 in
set_option maxRecDepth 100000 in
theorem c_X0_init (l : Launch) (D : va_G) (cy : ClassId) (o9 sa : Nat) : tq_V (S := Nat × Nat × Nat × Nat × Nat × Nat) l yX0_init cX0_init 2 2 41 6 1150 D cy [(o9, .inr (0, [.null, .null, .null, .int (nI (0)), .int (nI (0)), .int (nI (0)), .int (nI (0)), .int (nI (0))]))] [.ref o9, .ref sa] (fun _ => True) (fun u => [(o9, .inr (0, [.ref (sa), .ref (u.2.1), .ref (u.1), .int (nI (0)), .int (nI (0)), .int (nI (0)), .int (nI (0)), .int (nI (0))])), (u.1, .inl (cy, 256, .inl (fun j => nI ((fun _ => 0) j)))), (u.2.1, .inr (2, [.ref (sa), .ref (u.2.2.1), .ref (u.2.2.2.1), .ref (u.2.2.2.2.1), .ref (u.2.2.2.2.2)])), (u.2.2.1, .inl (cy, 256, .inl (fun j => nI ((fun _ => 0) j)))), (u.2.2.2.1, .inl (cy, 256, .inl (fun j => nI ((fun _ => 0) j)))), (u.2.2.2.2.1, .inl (cy, 256, .inl (fun j => nI ((fun _ => 0) j)))), (u.2.2.2.2.2, .inl (cy, 121, .inl (fun j => nI ((fun _ => 0) j))))]) := by
  refine tq_V.mk (by decide) (Nat.le_of_ble_eq_true rfl) ?_
  intro p e s m args below meth c A C hin hP hK hD hS hA ls hl
  obtain ⟨hx, hb, hml, hown, hrt, hlk, hT⟩ := id C
  have hl : lv_has ls 2 [(0, .ref o9), (1, .ref sa)] := hl
  refine lv_aload_n hx hb dX0_init_0 rfl (lv_at hl 0 rfl) ?_
  refine W.objInit hx hb hown (hT.use ml_X0_3 rfl) (hT.use im_Object_init rfl) (hT.use cd_Object_init rfl) rfl (by rw [hml]; exact hl.1) rfl dX0_init_1 (Nat.le_of_ble_eq_true rfl) (Nat.le_of_ble_eq_true rfl) ?_
  refine W.eq (g2 := F0 m 4 ls []) rfl ?_
  refine lv_aload_n hx hb dX0_init_4 rfl (lv_at hl 0 rfl) ?_
  refine lv_sipush (v := nI 256) hx hb dX0_init_5 (by decide) ?_
  refine tq_newa (n := 256) C hK hP hD hS hA (by decide) (Nat.le_of_ble_eq_true rfl) (Nat.le_of_ble_eq_true rfl) dX0_init_8 (fun q8 H hP hD hS => ?_)
  have hP : va_P D vwCl [(o9, .inr (0, [.null, .null, .null, .int (nI (0)), .int (nI (0)), .int (nI (0)), .int (nI (0)), .int (nI (0))])), (q8, .inl (cy, 256, .inl (fun j => nI ((fun _ => 0) j))))] H := hP
  have hD : va_D A [(o9, .inr (0, [.null, .null, .null, .int (nI (0)), .int (nI (0)), .int (nI (0)), .int (nI (0)), .int (nI (0))])), (q8, .inl (cy, 256, .inl (fun j => nI ((fun _ => 0) j))))] := hD
  refine tq_putF (v := .ref (q8)) (C0 := RX0) (T := TX0) (N := 8) (ci := 0) (k := 2) (ty := (.array .int)) C hin gX0 inX0 tyX0_ok nmX0 rfl (by decide) rfl rfl fl_X0_9 rfl (by decide +kernel) hK hP hD hS 0 rfl rfl rfl (Nat.le_of_ble_eq_true rfl) dX0_init_10 (fun H locs hP hD hS => ?_)
  have hP : va_P D vwCl [(o9, .inr (0, [.null, .null, .ref (q8), .int (nI (0)), .int (nI (0)), .int (nI (0)), .int (nI (0)), .int (nI (0))])), (q8, .inl (cy, 256, .inl (fun j => nI ((fun _ => 0) j))))] H := hP
  have hD : va_D A [(o9, .inr (0, [.null, .null, .ref (q8), .int (nI (0)), .int (nI (0)), .int (nI (0)), .int (nI (0)), .int (nI (0))])), (q8, .inl (cy, 256, .inl (fun j => nI ((fun _ => 0) j))))] := hD
  refine lv_aload_n hx hb dX0_init_13 rfl (lv_at hl 0 rfl) ?_
  refine lv_iconst (v := nI 0) hx hb dX0_init_14 (by decide) ?_
  refine tq_put (v := .int (nI (0))) (C0 := RX0) (T := TX0) (N := 8) (ci := 0) (k := 3) (ty := .int) C gX0 inX0 tyX0_ok nmX0 rfl (by decide) rfl fl_X0_15 rfl (by decide +kernel) hK hP hD hS 0 rfl rfl rfl (Nat.le_of_ble_eq_true rfl) dX0_init_15 (fun H locs hP hD hS => ?_)
  have hP : va_P D vwCl [(o9, .inr (0, [.null, .null, .ref (q8), .int (nI (0)), .int (nI (0)), .int (nI (0)), .int (nI (0)), .int (nI (0))])), (q8, .inl (cy, 256, .inl (fun j => nI ((fun _ => 0) j))))] H := hP
  have hD : va_D A [(o9, .inr (0, [.null, .null, .ref (q8), .int (nI (0)), .int (nI (0)), .int (nI (0)), .int (nI (0)), .int (nI (0))])), (q8, .inl (cy, 256, .inl (fun j => nI ((fun _ => 0) j))))] := hD
  refine lv_aload_n hx hb dX0_init_18 rfl (lv_at hl 0 rfl) ?_
  refine lv_iconst (v := nI 0) hx hb dX0_init_19 (by decide) ?_
  refine tq_put (v := .int (nI (0))) (C0 := RX0) (T := TX0) (N := 8) (ci := 0) (k := 4) (ty := .int) C gX0 inX0 tyX0_ok nmX0 rfl (by decide) rfl fl_X0_19 rfl (by decide +kernel) hK hP hD hS 0 rfl rfl rfl (Nat.le_of_ble_eq_true rfl) dX0_init_20 (fun H locs hP hD hS => ?_)
  have hP : va_P D vwCl [(o9, .inr (0, [.null, .null, .ref (q8), .int (nI (0)), .int (nI (0)), .int (nI (0)), .int (nI (0)), .int (nI (0))])), (q8, .inl (cy, 256, .inl (fun j => nI ((fun _ => 0) j))))] H := hP
  have hD : va_D A [(o9, .inr (0, [.null, .null, .ref (q8), .int (nI (0)), .int (nI (0)), .int (nI (0)), .int (nI (0)), .int (nI (0))])), (q8, .inl (cy, 256, .inl (fun j => nI ((fun _ => 0) j))))] := hD
  refine lv_aload_n hx hb dX0_init_23 rfl (lv_at hl 0 rfl) ?_
  refine lv_iconst (v := nI 0) hx hb dX0_init_24 (by decide) ?_
  refine tq_put (v := .int (nI (0))) (C0 := RX0) (T := TX0) (N := 8) (ci := 0) (k := 5) (ty := .int) C gX0 inX0 tyX0_ok nmX0 rfl (by decide) rfl fl_X0_22 rfl (by decide +kernel) hK hP hD hS 0 rfl rfl rfl (Nat.le_of_ble_eq_true rfl) dX0_init_25 (fun H locs hP hD hS => ?_)
  have hP : va_P D vwCl [(o9, .inr (0, [.null, .null, .ref (q8), .int (nI (0)), .int (nI (0)), .int (nI (0)), .int (nI (0)), .int (nI (0))])), (q8, .inl (cy, 256, .inl (fun j => nI ((fun _ => 0) j))))] H := hP
  have hD : va_D A [(o9, .inr (0, [.null, .null, .ref (q8), .int (nI (0)), .int (nI (0)), .int (nI (0)), .int (nI (0)), .int (nI (0))])), (q8, .inl (cy, 256, .inl (fun j => nI ((fun _ => 0) j))))] := hD
  refine lv_aload_n hx hb dX0_init_28 rfl (lv_at hl 0 rfl) ?_
  refine lv_iconst (v := nI 0) hx hb dX0_init_29 (by decide) ?_
  refine tq_put (v := .int (nI (0))) (C0 := RX0) (T := TX0) (N := 8) (ci := 0) (k := 6) (ty := .int) C gX0 inX0 tyX0_ok nmX0 rfl (by decide) rfl fl_X0_25 rfl (by decide +kernel) hK hP hD hS 0 rfl rfl rfl (Nat.le_of_ble_eq_true rfl) dX0_init_30 (fun H locs hP hD hS => ?_)
  have hP : va_P D vwCl [(o9, .inr (0, [.null, .null, .ref (q8), .int (nI (0)), .int (nI (0)), .int (nI (0)), .int (nI (0)), .int (nI (0))])), (q8, .inl (cy, 256, .inl (fun j => nI ((fun _ => 0) j))))] H := hP
  have hD : va_D A [(o9, .inr (0, [.null, .null, .ref (q8), .int (nI (0)), .int (nI (0)), .int (nI (0)), .int (nI (0)), .int (nI (0))])), (q8, .inl (cy, 256, .inl (fun j => nI ((fun _ => 0) j))))] := hD
  refine lv_aload_n hx hb dX0_init_33 rfl (lv_at hl 0 rfl) ?_
  refine lv_iconst (v := nI 0) hx hb dX0_init_34 (by decide) ?_
  refine tq_put (v := .int (nI (0))) (C0 := RX0) (T := TX0) (N := 8) (ci := 0) (k := 7) (ty := .int) C gX0 inX0 tyX0_ok nmX0 rfl (by decide) rfl fl_X0_28 rfl (by decide +kernel) hK hP hD hS 0 rfl rfl rfl (Nat.le_of_ble_eq_true rfl) dX0_init_35 (fun H locs hP hD hS => ?_)
  have hP : va_P D vwCl [(o9, .inr (0, [.null, .null, .ref (q8), .int (nI (0)), .int (nI (0)), .int (nI (0)), .int (nI (0)), .int (nI (0))])), (q8, .inl (cy, 256, .inl (fun j => nI ((fun _ => 0) j))))] H := hP
  have hD : va_D A [(o9, .inr (0, [.null, .null, .ref (q8), .int (nI (0)), .int (nI (0)), .int (nI (0)), .int (nI (0)), .int (nI (0))])), (q8, .inl (cy, 256, .inl (fun j => nI ((fun _ => 0) j))))] := hD
  refine lv_aload_n hx hb dX0_init_38 rfl (lv_at hl 0 rfl) ?_
  refine lv_aload_n hx hb dX0_init_39 rfl (lv_at hl 1 rfl) ?_
  refine tq_putF (v := .ref (sa)) (C0 := RX0) (T := TX0) (N := 8) (ci := 0) (k := 0) (ty := (.object "TwinHashTables$Store")) C hin gX0 inX0 tyX0_ok nmX0 rfl (by decide) rfl rfl fl_X0_31 rfl (by decide +kernel) hK hP hD hS 0 rfl rfl rfl (Nat.le_of_ble_eq_true rfl) dX0_init_40 (fun H locs hP hD hS => ?_)
  have hP : va_P D vwCl [(o9, .inr (0, [.ref (sa), .null, .ref (q8), .int (nI (0)), .int (nI (0)), .int (nI (0)), .int (nI (0)), .int (nI (0))])), (q8, .inl (cy, 256, .inl (fun j => nI ((fun _ => 0) j))))] H := hP
  have hD : va_D A [(o9, .inr (0, [.ref (sa), .null, .ref (q8), .int (nI (0)), .int (nI (0)), .int (nI (0)), .int (nI (0)), .int (nI (0))])), (q8, .inl (cy, 256, .inl (fun j => nI ((fun _ => 0) j))))] := hD
  refine lv_aload_n hx hb dX0_init_43 rfl (lv_at hl 0 rfl) ?_
  refine tq_new (fs := [.null, .null, .null, .null, .null]) (C0 := RX2) (T := TX2) (N := 5) (ci := 2) C gX2 inX2 tyX2_ok rfl clk_X0_35 inst_X2 ini_X2 hK hP hD hS hA (fun j hj => by match j, hj with | 0, _ => rfl | 1, _ => rfl | 2, _ => rfl | 3, _ => rfl | 4, _ => rfl | k9 + 5, h9 => exact absurd h9 (by omega)) (Nat.le_of_ble_eq_true rfl) (Nat.le_of_ble_eq_true rfl) dX0_init_44 (fun q44 H locs hP hD hS => ?_)
  have hP : va_P D vwCl [(o9, .inr (0, [.ref (sa), .null, .ref (q8), .int (nI (0)), .int (nI (0)), .int (nI (0)), .int (nI (0)), .int (nI (0))])), (q8, .inl (cy, 256, .inl (fun j => nI ((fun _ => 0) j)))), (q44, .inr (2, [.null, .null, .null, .null, .null]))] H := hP
  have hD : va_D A [(o9, .inr (0, [.ref (sa), .null, .ref (q8), .int (nI (0)), .int (nI (0)), .int (nI (0)), .int (nI (0)), .int (nI (0))])), (q8, .inl (cy, 256, .inl (fun j => nI ((fun _ => 0) j)))), (q44, .inr (2, [.null, .null, .null, .null, .null]))] := hD
  refine lv_dup hx hb dX0_init_47 rfl ?_
  refine lv_aload_n hx hb dX0_init_48 rfl (lv_at hl 1 rfl) ?_
  refine tq_callV (W3 := fun u => [(o9, .inr (0, [.ref (sa), .null, .ref (q8), .int (nI (0)), .int (nI (0)), .int (nI (0)), .int (nI (0)), .int (nI (0))])), (q8, .inl (cy, 256, .inl (fun j => nI ((fun _ => 0) j)))), (q44, .inr (2, [.ref (sa), .ref (u.1), .ref (u.2.1), .ref (u.2.2.1), .ref (u.2.2.2)])), (u.1, .inl (cy, 256, .inl (fun j => nI ((fun _ => 0) j)))), (u.2.1, .inl (cy, 256, .inl (fun j => nI ((fun _ => 0) j)))), (u.2.2.1, .inl (cy, 256, .inl (fun j => nI ((fun _ => 0) j)))), (u.2.2.2, .inl (cy, 121, .inl (fun j => nI ((fun _ => 0) j))))]) (wr := [(o9, .inr (0, [.ref (sa), .null, .ref (q8), .int (nI (0)), .int (nI (0)), .int (nI (0)), .int (nI (0)), .int (nI (0))])), (q8, .inl (cy, 256, .inl (fun j => nI ((fun _ => 0) j))))]) (va_runI C.fix (As := [.ref (sa)]) (rest := [.ref (q44), .ref (o9)]) (c_X2_init l D cy q44 sa H.size) (tq_cI (n := 1) C ml_X0_37 im_X2_init ini_X2 cd_X2_init rfl ⟨by decide, by decide, by decide +kernel⟩ ⟨Nat.le_of_ble_eq_true rfl, Nat.le_of_ble_eq_true rfl⟩) ⟨tq_Pc.blind, tq_preC C hK (hP.sub [2] rfl) (hD.sub [2] (by decide) rfl)⟩ rfl rfl hl.1 rfl (lv_room (Nat.le_of_ble_eq_true rfl)) dX0_init_49 ⟨Nat.le_of_ble_eq_true rfl, Nat.le_of_ble_eq_true rfl⟩) hP hD hS hA [2] [0, 1] [0, 1, 2, 3, 4, 5, 6] rfl rfl (by decide) (by decide) (by decide) (fun _ => rfl) (fun u49 H locs _ hP hD hS => ?_)
  obtain ⟨q8_49, q17_49, q26_49, q34_49⟩ := u49
  have hP : va_P D vwCl [(o9, .inr (0, [.ref (sa), .null, .ref (q8), .int (nI (0)), .int (nI (0)), .int (nI (0)), .int (nI (0)), .int (nI (0))])), (q8, .inl (cy, 256, .inl (fun j => nI ((fun _ => 0) j)))), (q44, .inr (2, [.ref (sa), .ref (q8_49), .ref (q17_49), .ref (q26_49), .ref (q34_49)])), (q8_49, .inl (cy, 256, .inl (fun j => nI ((fun _ => 0) j)))), (q17_49, .inl (cy, 256, .inl (fun j => nI ((fun _ => 0) j)))), (q26_49, .inl (cy, 256, .inl (fun j => nI ((fun _ => 0) j)))), (q34_49, .inl (cy, 121, .inl (fun j => nI ((fun _ => 0) j))))] H := hP
  have hD : va_D A [(o9, .inr (0, [.ref (sa), .null, .ref (q8), .int (nI (0)), .int (nI (0)), .int (nI (0)), .int (nI (0)), .int (nI (0))])), (q8, .inl (cy, 256, .inl (fun j => nI ((fun _ => 0) j)))), (q44, .inr (2, [.ref (sa), .ref (q8_49), .ref (q17_49), .ref (q26_49), .ref (q34_49)])), (q8_49, .inl (cy, 256, .inl (fun j => nI ((fun _ => 0) j)))), (q17_49, .inl (cy, 256, .inl (fun j => nI ((fun _ => 0) j)))), (q26_49, .inl (cy, 256, .inl (fun j => nI ((fun _ => 0) j)))), (q34_49, .inl (cy, 121, .inl (fun j => nI ((fun _ => 0) j))))] := hD
  refine tq_putF (v := .ref (q44)) (C0 := RX0) (T := TX0) (N := 8) (ci := 0) (k := 1) (ty := (.object "TwinHashTables$Rows")) C hin gX0 inX0 tyX0_ok nmX0 rfl (by decide) rfl rfl fl_X0_40 rfl (by decide +kernel) hK hP hD hS 0 rfl rfl rfl (Nat.le_of_ble_eq_true rfl) dX0_init_52 (fun H locs hP hD hS => ?_)
  have hP : va_P D vwCl [(o9, .inr (0, [.ref (sa), .ref (q44), .ref (q8), .int (nI (0)), .int (nI (0)), .int (nI (0)), .int (nI (0)), .int (nI (0))])), (q8, .inl (cy, 256, .inl (fun j => nI ((fun _ => 0) j)))), (q44, .inr (2, [.ref (sa), .ref (q8_49), .ref (q17_49), .ref (q26_49), .ref (q34_49)])), (q8_49, .inl (cy, 256, .inl (fun j => nI ((fun _ => 0) j)))), (q17_49, .inl (cy, 256, .inl (fun j => nI ((fun _ => 0) j)))), (q26_49, .inl (cy, 256, .inl (fun j => nI ((fun _ => 0) j)))), (q34_49, .inl (cy, 121, .inl (fun j => nI ((fun _ => 0) j))))] H := hP
  have hD : va_D A [(o9, .inr (0, [.ref (sa), .ref (q44), .ref (q8), .int (nI (0)), .int (nI (0)), .int (nI (0)), .int (nI (0)), .int (nI (0))])), (q8, .inl (cy, 256, .inl (fun j => nI ((fun _ => 0) j)))), (q44, .inr (2, [.ref (sa), .ref (q8_49), .ref (q17_49), .ref (q26_49), .ref (q34_49)])), (q8_49, .inl (cy, 256, .inl (fun j => nI ((fun _ => 0) j)))), (q17_49, .inl (cy, 256, .inl (fun j => nI ((fun _ => 0) j)))), (q26_49, .inl (cy, 256, .inl (fun j => nI ((fun _ => 0) j)))), (q34_49, .inl (cy, 121, .inl (fun j => nI ((fun _ => 0) j))))] := hD
  exact tq_vret C (q8, q44, q8_49, q17_49, q26_49, q34_49) hP hD hS trivial (Nat.le_of_ble_eq_true rfl) (Nat.le_of_ble_eq_true rfl) dX0_init_55
theorem dX1_init_0 : decode cX1_init 0 = .ok (.aload_n 0, 1) := by decide +kernel
theorem dX1_init_1 : decode cX1_init 1 = .ok (.invokespecial 3, 3) := by decide +kernel
theorem dX1_init_4 : decode cX1_init 4 = .ok (.aload_n 0, 1) := by decide +kernel
theorem dX1_init_5 : decode cX1_init 5 = .ok (.iconst 0, 1) := by decide +kernel
theorem dX1_init_6 : decode cX1_init 6 = .ok (.putfield 9, 3) := by decide +kernel
theorem dX1_init_9 : decode cX1_init 9 = .ok (.aload_n 0, 1) := by decide +kernel
theorem dX1_init_10 : decode cX1_init 10 = .ok (.iconst 0, 1) := by decide +kernel
theorem dX1_init_11 : decode cX1_init 11 = .ok (.putfield 15, 3) := by decide +kernel
theorem dX1_init_14 : decode cX1_init 14 = .ok (.aload_n 0, 1) := by decide +kernel
theorem dX1_init_15 : decode cX1_init 15 = .ok (.bipush 30, 2) := by decide +kernel
theorem dX1_init_17 : decode cX1_init 17 = .ok (.putfield 18, 3) := by decide +kernel
theorem dX1_init_20 : decode cX1_init 20 = .ok (.aload_n 0, 1) := by decide +kernel
theorem dX1_init_21 : decode cX1_init 21 = .ok (.bipush 80, 2) := by decide +kernel
theorem dX1_init_23 : decode cX1_init 23 = .ok (.putfield 21, 3) := by decide +kernel
theorem dX1_init_26 : decode cX1_init 26 = .ok (.aload_n 0, 1) := by decide +kernel
theorem dX1_init_27 : decode cX1_init 27 = .ok (.iconst 0, 1) := by decide +kernel
theorem dX1_init_28 : decode cX1_init 28 = .ok (.putfield 24, 3) := by decide +kernel
theorem dX1_init_31 : decode cX1_init 31 = .ok (.aload_n 0, 1) := by decide +kernel
theorem dX1_init_32 : decode cX1_init 32 = .ok (.aload_n 1, 1) := by decide +kernel
theorem dX1_init_33 : decode cX1_init 33 = .ok (.putfield 27, 3) := by decide +kernel
theorem dX1_init_36 : decode cX1_init 36 = .ok (.aload_n 0, 1) := by decide +kernel
theorem dX1_init_37 : decode cX1_init 37 = .ok (.new 31, 3) := by decide +kernel
theorem dX1_init_40 : decode cX1_init 40 = .ok (.dup, 1) := by decide +kernel
theorem dX1_init_41 : decode cX1_init 41 = .ok (.aload_n 1, 1) := by decide +kernel
theorem dX1_init_42 : decode cX1_init 42 = .ok (.invokespecial 33, 3) := by decide +kernel
theorem dX1_init_45 : decode cX1_init 45 = .ok (.putfield 36, 3) := by decide +kernel
theorem dX1_init_48 : decode cX1_init 48 = .ok (.return_, 1) := by decide +kernel
set_option maxHeartbeats 4000000 in
set_option maxRecDepth 100000 in
theorem c_X1_init (l : Launch) (D : va_G) (cy : ClassId) (o9 sa : Nat) : tq_V (S := Nat × Nat × Nat × Nat × Nat) l yX1_init cX1_init 2 2 41 5 894 D cy [(o9, .inr (1, [.null, .null, .int (nI (0)), .int (nI (0)), .int (nI (0)), .int (nI (0)), .int (nI (0))]))] [.ref o9, .ref sa] (fun _ => True) (fun u => [(o9, .inr (1, [.ref (sa), .ref (u.1), .int (nI (0)), .int (nI (0)), .int (nI (30)), .int (nI (80)), .int (nI (0))])), (u.1, .inr (2, [.ref (sa), .ref (u.2.1), .ref (u.2.2.1), .ref (u.2.2.2.1), .ref (u.2.2.2.2)])), (u.2.1, .inl (cy, 256, .inl (fun j => nI ((fun _ => 0) j)))), (u.2.2.1, .inl (cy, 256, .inl (fun j => nI ((fun _ => 0) j)))), (u.2.2.2.1, .inl (cy, 256, .inl (fun j => nI ((fun _ => 0) j)))), (u.2.2.2.2, .inl (cy, 121, .inl (fun j => nI ((fun _ => 0) j))))]) := by
  refine tq_V.mk (by decide) (Nat.le_of_ble_eq_true rfl) ?_
  intro p e s m args below meth c A C hin hP hK hD hS hA ls hl
  obtain ⟨hx, hb, hml, hown, hrt, hlk, hT⟩ := id C
  have hl : lv_has ls 2 [(0, .ref o9), (1, .ref sa)] := hl
  refine lv_aload_n hx hb dX1_init_0 rfl (lv_at hl 0 rfl) ?_
  refine W.objInit hx hb hown (hT.use ml_X1_3 rfl) (hT.use im_Object_init rfl) (hT.use cd_Object_init rfl) rfl (by rw [hml]; exact hl.1) rfl dX1_init_1 (Nat.le_of_ble_eq_true rfl) (Nat.le_of_ble_eq_true rfl) ?_
  refine W.eq (g2 := F0 m 4 ls []) rfl ?_
  refine lv_aload_n hx hb dX1_init_4 rfl (lv_at hl 0 rfl) ?_
  refine lv_iconst (v := nI 0) hx hb dX1_init_5 (by decide) ?_
  refine tq_put (v := .int (nI (0))) (C0 := RX1) (T := TX1) (N := 7) (ci := 1) (k := 2) (ty := .int) C gX1 inX1 tyX1_ok nmX1 rfl (by decide) rfl fl_X1_9 rfl (by decide +kernel) hK hP hD hS 0 rfl rfl rfl (Nat.le_of_ble_eq_true rfl) dX1_init_6 (fun H locs hP hD hS => ?_)
  have hP : va_P D vwCl [(o9, .inr (1, [.null, .null, .int (nI (0)), .int (nI (0)), .int (nI (0)), .int (nI (0)), .int (nI (0))]))] H := hP
  have hD : va_D A [(o9, .inr (1, [.null, .null, .int (nI (0)), .int (nI (0)), .int (nI (0)), .int (nI (0)), .int (nI (0))]))] := hD
  refine lv_aload_n hx hb dX1_init_9 rfl (lv_at hl 0 rfl) ?_
  refine lv_iconst (v := nI 0) hx hb dX1_init_10 (by decide) ?_
  refine tq_put (v := .int (nI (0))) (C0 := RX1) (T := TX1) (N := 7) (ci := 1) (k := 3) (ty := .int) C gX1 inX1 tyX1_ok nmX1 rfl (by decide) rfl fl_X1_15 rfl (by decide +kernel) hK hP hD hS 0 rfl rfl rfl (Nat.le_of_ble_eq_true rfl) dX1_init_11 (fun H locs hP hD hS => ?_)
  have hP : va_P D vwCl [(o9, .inr (1, [.null, .null, .int (nI (0)), .int (nI (0)), .int (nI (0)), .int (nI (0)), .int (nI (0))]))] H := hP
  have hD : va_D A [(o9, .inr (1, [.null, .null, .int (nI (0)), .int (nI (0)), .int (nI (0)), .int (nI (0)), .int (nI (0))]))] := hD
  refine lv_aload_n hx hb dX1_init_14 rfl (lv_at hl 0 rfl) ?_
  refine lv_bipush (v := nI 30) hx hb dX1_init_15 (by decide) ?_
  refine tq_put (v := .int (nI (30))) (C0 := RX1) (T := TX1) (N := 7) (ci := 1) (k := 4) (ty := .int) C gX1 inX1 tyX1_ok nmX1 rfl (by decide) rfl fl_X1_18 rfl (by decide +kernel) hK hP hD hS 0 rfl rfl rfl (Nat.le_of_ble_eq_true rfl) dX1_init_17 (fun H locs hP hD hS => ?_)
  have hP : va_P D vwCl [(o9, .inr (1, [.null, .null, .int (nI (0)), .int (nI (0)), .int (nI (30)), .int (nI (0)), .int (nI (0))]))] H := hP
  have hD : va_D A [(o9, .inr (1, [.null, .null, .int (nI (0)), .int (nI (0)), .int (nI (30)), .int (nI (0)), .int (nI (0))]))] := hD
  refine lv_aload_n hx hb dX1_init_20 rfl (lv_at hl 0 rfl) ?_
  refine lv_bipush (v := nI 80) hx hb dX1_init_21 (by decide) ?_
  refine tq_put (v := .int (nI (80))) (C0 := RX1) (T := TX1) (N := 7) (ci := 1) (k := 5) (ty := .int) C gX1 inX1 tyX1_ok nmX1 rfl (by decide) rfl fl_X1_21 rfl (by decide +kernel) hK hP hD hS 0 rfl rfl rfl (Nat.le_of_ble_eq_true rfl) dX1_init_23 (fun H locs hP hD hS => ?_)
  have hP : va_P D vwCl [(o9, .inr (1, [.null, .null, .int (nI (0)), .int (nI (0)), .int (nI (30)), .int (nI (80)), .int (nI (0))]))] H := hP
  have hD : va_D A [(o9, .inr (1, [.null, .null, .int (nI (0)), .int (nI (0)), .int (nI (30)), .int (nI (80)), .int (nI (0))]))] := hD
  refine lv_aload_n hx hb dX1_init_26 rfl (lv_at hl 0 rfl) ?_
  refine lv_iconst (v := nI 0) hx hb dX1_init_27 (by decide) ?_
  refine tq_put (v := .int (nI (0))) (C0 := RX1) (T := TX1) (N := 7) (ci := 1) (k := 6) (ty := .int) C gX1 inX1 tyX1_ok nmX1 rfl (by decide) rfl fl_X1_24 rfl (by decide +kernel) hK hP hD hS 0 rfl rfl rfl (Nat.le_of_ble_eq_true rfl) dX1_init_28 (fun H locs hP hD hS => ?_)
  have hP : va_P D vwCl [(o9, .inr (1, [.null, .null, .int (nI (0)), .int (nI (0)), .int (nI (30)), .int (nI (80)), .int (nI (0))]))] H := hP
  have hD : va_D A [(o9, .inr (1, [.null, .null, .int (nI (0)), .int (nI (0)), .int (nI (30)), .int (nI (80)), .int (nI (0))]))] := hD
  refine lv_aload_n hx hb dX1_init_31 rfl (lv_at hl 0 rfl) ?_
  refine lv_aload_n hx hb dX1_init_32 rfl (lv_at hl 1 rfl) ?_
  refine tq_putF (v := .ref (sa)) (C0 := RX1) (T := TX1) (N := 7) (ci := 1) (k := 0) (ty := (.object "TwinHashTables$Store")) C hin gX1 inX1 tyX1_ok nmX1 rfl (by decide) rfl rfl fl_X1_27 rfl (by decide +kernel) hK hP hD hS 0 rfl rfl rfl (Nat.le_of_ble_eq_true rfl) dX1_init_33 (fun H locs hP hD hS => ?_)
  have hP : va_P D vwCl [(o9, .inr (1, [.ref (sa), .null, .int (nI (0)), .int (nI (0)), .int (nI (30)), .int (nI (80)), .int (nI (0))]))] H := hP
  have hD : va_D A [(o9, .inr (1, [.ref (sa), .null, .int (nI (0)), .int (nI (0)), .int (nI (30)), .int (nI (80)), .int (nI (0))]))] := hD
  refine lv_aload_n hx hb dX1_init_36 rfl (lv_at hl 0 rfl) ?_
  refine tq_new (fs := [.null, .null, .null, .null, .null]) (C0 := RX2) (T := TX2) (N := 5) (ci := 2) C gX2 inX2 tyX2_ok rfl clk_X1_31 inst_X2 ini_X2 hK hP hD hS hA (fun j hj => by match j, hj with | 0, _ => rfl | 1, _ => rfl | 2, _ => rfl | 3, _ => rfl | 4, _ => rfl | k9 + 5, h9 => exact absurd h9 (by omega)) (Nat.le_of_ble_eq_true rfl) (Nat.le_of_ble_eq_true rfl) dX1_init_37 (fun q37 H locs hP hD hS => ?_)
  have hP : va_P D vwCl [(o9, .inr (1, [.ref (sa), .null, .int (nI (0)), .int (nI (0)), .int (nI (30)), .int (nI (80)), .int (nI (0))])), (q37, .inr (2, [.null, .null, .null, .null, .null]))] H := hP
  have hD : va_D A [(o9, .inr (1, [.ref (sa), .null, .int (nI (0)), .int (nI (0)), .int (nI (30)), .int (nI (80)), .int (nI (0))])), (q37, .inr (2, [.null, .null, .null, .null, .null]))] := hD
  refine lv_dup hx hb dX1_init_40 rfl ?_
  refine lv_aload_n hx hb dX1_init_41 rfl (lv_at hl 1 rfl) ?_
  refine tq_callV (W3 := fun u => [(o9, .inr (1, [.ref (sa), .null, .int (nI (0)), .int (nI (0)), .int (nI (30)), .int (nI (80)), .int (nI (0))])), (q37, .inr (2, [.ref (sa), .ref (u.1), .ref (u.2.1), .ref (u.2.2.1), .ref (u.2.2.2)])), (u.1, .inl (cy, 256, .inl (fun j => nI ((fun _ => 0) j)))), (u.2.1, .inl (cy, 256, .inl (fun j => nI ((fun _ => 0) j)))), (u.2.2.1, .inl (cy, 256, .inl (fun j => nI ((fun _ => 0) j)))), (u.2.2.2, .inl (cy, 121, .inl (fun j => nI ((fun _ => 0) j))))]) (wr := [(o9, .inr (1, [.ref (sa), .null, .int (nI (0)), .int (nI (0)), .int (nI (30)), .int (nI (80)), .int (nI (0))]))]) (va_runI C.fix (As := [.ref (sa)]) (rest := [.ref (q37), .ref (o9)]) (c_X2_init l D cy q37 sa H.size) (tq_cI (n := 1) C ml_X1_33 im_X2_init ini_X2 cd_X2_init rfl ⟨by decide, by decide, by decide +kernel⟩ ⟨Nat.le_of_ble_eq_true rfl, Nat.le_of_ble_eq_true rfl⟩) ⟨tq_Pc.blind, tq_preC C hK (hP.sub [1] rfl) (hD.sub [1] (by decide) rfl)⟩ rfl rfl hl.1 rfl (lv_room (Nat.le_of_ble_eq_true rfl)) dX1_init_42 ⟨Nat.le_of_ble_eq_true rfl, Nat.le_of_ble_eq_true rfl⟩) hP hD hS hA [1] [0] [0, 1, 2, 3, 4, 5] rfl rfl (by decide) (by decide) (by decide) (fun _ => rfl) (fun u42 H locs _ hP hD hS => ?_)
  obtain ⟨q8_42, q17_42, q26_42, q34_42⟩ := u42
  have hP : va_P D vwCl [(o9, .inr (1, [.ref (sa), .null, .int (nI (0)), .int (nI (0)), .int (nI (30)), .int (nI (80)), .int (nI (0))])), (q37, .inr (2, [.ref (sa), .ref (q8_42), .ref (q17_42), .ref (q26_42), .ref (q34_42)])), (q8_42, .inl (cy, 256, .inl (fun j => nI ((fun _ => 0) j)))), (q17_42, .inl (cy, 256, .inl (fun j => nI ((fun _ => 0) j)))), (q26_42, .inl (cy, 256, .inl (fun j => nI ((fun _ => 0) j)))), (q34_42, .inl (cy, 121, .inl (fun j => nI ((fun _ => 0) j))))] H := hP
  have hD : va_D A [(o9, .inr (1, [.ref (sa), .null, .int (nI (0)), .int (nI (0)), .int (nI (30)), .int (nI (80)), .int (nI (0))])), (q37, .inr (2, [.ref (sa), .ref (q8_42), .ref (q17_42), .ref (q26_42), .ref (q34_42)])), (q8_42, .inl (cy, 256, .inl (fun j => nI ((fun _ => 0) j)))), (q17_42, .inl (cy, 256, .inl (fun j => nI ((fun _ => 0) j)))), (q26_42, .inl (cy, 256, .inl (fun j => nI ((fun _ => 0) j)))), (q34_42, .inl (cy, 121, .inl (fun j => nI ((fun _ => 0) j))))] := hD
  refine tq_putF (v := .ref (q37)) (C0 := RX1) (T := TX1) (N := 7) (ci := 1) (k := 1) (ty := (.object "TwinHashTables$Rows")) C hin gX1 inX1 tyX1_ok nmX1 rfl (by decide) rfl rfl fl_X1_36 rfl (by decide +kernel) hK hP hD hS 0 rfl rfl rfl (Nat.le_of_ble_eq_true rfl) dX1_init_45 (fun H locs hP hD hS => ?_)
  have hP : va_P D vwCl [(o9, .inr (1, [.ref (sa), .ref (q37), .int (nI (0)), .int (nI (0)), .int (nI (30)), .int (nI (80)), .int (nI (0))])), (q37, .inr (2, [.ref (sa), .ref (q8_42), .ref (q17_42), .ref (q26_42), .ref (q34_42)])), (q8_42, .inl (cy, 256, .inl (fun j => nI ((fun _ => 0) j)))), (q17_42, .inl (cy, 256, .inl (fun j => nI ((fun _ => 0) j)))), (q26_42, .inl (cy, 256, .inl (fun j => nI ((fun _ => 0) j)))), (q34_42, .inl (cy, 121, .inl (fun j => nI ((fun _ => 0) j))))] H := hP
  have hD : va_D A [(o9, .inr (1, [.ref (sa), .ref (q37), .int (nI (0)), .int (nI (0)), .int (nI (30)), .int (nI (80)), .int (nI (0))])), (q37, .inr (2, [.ref (sa), .ref (q8_42), .ref (q17_42), .ref (q26_42), .ref (q34_42)])), (q8_42, .inl (cy, 256, .inl (fun j => nI ((fun _ => 0) j)))), (q17_42, .inl (cy, 256, .inl (fun j => nI ((fun _ => 0) j)))), (q26_42, .inl (cy, 256, .inl (fun j => nI ((fun _ => 0) j)))), (q34_42, .inl (cy, 121, .inl (fun j => nI ((fun _ => 0) j))))] := hD
  exact tq_vret C (q37, q8_42, q17_42, q26_42, q34_42) hP hD hS trivial (Nat.le_of_ble_eq_true rfl) (Nat.le_of_ble_eq_true rfl) dX1_init_48
theorem dX4_init_0 : decode cX4_init 0 = .ok (.aload_n 0, 1) := by decide +kernel
theorem dX4_init_1 : decode cX4_init 1 = .ok (.invokespecial 1, 3) := by decide +kernel
theorem dX4_init_4 : decode cX4_init 4 = .ok (.aload_n 0, 1) := by decide +kernel
theorem dX4_init_5 : decode cX4_init 5 = .ok (.new 7, 3) := by decide +kernel
theorem dX4_init_8 : decode cX4_init 8 = .ok (.dup, 1) := by decide +kernel
theorem dX4_init_9 : decode cX4_init 9 = .ok (.invokespecial 9, 3) := by decide +kernel
theorem dX4_init_12 : decode cX4_init 12 = .ok (.putfield 10, 3) := by decide +kernel
theorem dX4_init_15 : decode cX4_init 15 = .ok (.aload_n 0, 1) := by decide +kernel
theorem dX4_init_16 : decode cX4_init 16 = .ok (.new 16, 3) := by decide +kernel
theorem dX4_init_19 : decode cX4_init 19 = .ok (.dup, 1) := by decide +kernel
theorem dX4_init_20 : decode cX4_init 20 = .ok (.aload_n 0, 1) := by decide +kernel
theorem dX4_init_21 : decode cX4_init 21 = .ok (.getfield 10, 3) := by decide +kernel
theorem dX4_init_24 : decode cX4_init 24 = .ok (.invokespecial 18, 3) := by decide +kernel
theorem dX4_init_27 : decode cX4_init 27 = .ok (.putfield 21, 3) := by decide +kernel
theorem dX4_init_30 : decode cX4_init 30 = .ok (.aload_n 0, 1) := by decide +kernel
theorem dX4_init_31 : decode cX4_init 31 = .ok (.new 25, 3) := by decide +kernel
theorem dX4_init_34 : decode cX4_init 34 = .ok (.dup, 1) := by decide +kernel
theorem dX4_init_35 : decode cX4_init 35 = .ok (.aload_n 0, 1) := by decide +kernel
theorem dX4_init_36 : decode cX4_init 36 = .ok (.getfield 10, 3) := by decide +kernel
theorem dX4_init_39 : decode cX4_init 39 = .ok (.invokespecial 27, 3) := by decide +kernel
theorem dX4_init_42 : decode cX4_init 42 = .ok (.putfield 28, 3) := by decide +kernel
theorem dX4_init_45 : decode cX4_init 45 = .ok (.return_, 1) := by decide +kernel
set_option maxHeartbeats 4000000 in
set_option maxRecDepth 100000 in
theorem c_X4_init (l : Launch) (D : va_G) (cy : ClassId) (o9 : Nat) : tq_V (S := Nat × Nat × Nat × Nat × Nat × Nat × Nat × Nat × Nat × Nat × Nat × Nat × Nat × Nat × Nat × Nat × Nat) l yX4_init cX4_init 1 3 62 17 2426 D cy [(o9, .inr (4, [.null, .null, .null]))] [.ref o9] (fun _ => True) (fun u => [(o9, .inr (4, [.ref (u.1), .ref (u.2.2.2.2.1), .ref (u.2.2.2.2.2.2.2.2.2.2.2.1)])), (u.1, .inr (3, [.ref (u.2.1), .ref (u.2.2.1), .ref (u.2.2.2.1), .int (nI (0)), .int (nI (3))])), (u.2.1, .inl (cy, 121, .inl (fun j => nI ((fun _ => 0) j)))), (u.2.2.1, .inl (cy, 121, .inl (fun j => nI ((fun _ => 0) j)))), (u.2.2.2.1, .inl (cy, 120, .inl (fun j => nI ((fun j => if j < 120 then j + 1 else 0) j)))), (u.2.2.2.2.1, .inr (0, [.ref (u.1), .ref (u.2.2.2.2.2.2.1), .ref (u.2.2.2.2.2.1), .int (nI (0)), .int (nI (0)), .int (nI (0)), .int (nI (0)), .int (nI (0))])), (u.2.2.2.2.2.1, .inl (cy, 256, .inl (fun j => nI ((fun _ => 0) j)))), (u.2.2.2.2.2.2.1, .inr (2, [.ref (u.1), .ref (u.2.2.2.2.2.2.2.1), .ref (u.2.2.2.2.2.2.2.2.1), .ref (u.2.2.2.2.2.2.2.2.2.1), .ref (u.2.2.2.2.2.2.2.2.2.2.1)])), (u.2.2.2.2.2.2.2.1, .inl (cy, 256, .inl (fun j => nI ((fun _ => 0) j)))), (u.2.2.2.2.2.2.2.2.1, .inl (cy, 256, .inl (fun j => nI ((fun _ => 0) j)))), (u.2.2.2.2.2.2.2.2.2.1, .inl (cy, 256, .inl (fun j => nI ((fun _ => 0) j)))), (u.2.2.2.2.2.2.2.2.2.2.1, .inl (cy, 121, .inl (fun j => nI ((fun _ => 0) j)))), (u.2.2.2.2.2.2.2.2.2.2.2.1, .inr (1, [.ref (u.1), .ref (u.2.2.2.2.2.2.2.2.2.2.2.2.1), .int (nI (0)), .int (nI (0)), .int (nI (30)), .int (nI (80)), .int (nI (0))])), (u.2.2.2.2.2.2.2.2.2.2.2.2.1, .inr (2, [.ref (u.1), .ref (u.2.2.2.2.2.2.2.2.2.2.2.2.2.1), .ref (u.2.2.2.2.2.2.2.2.2.2.2.2.2.2.1), .ref (u.2.2.2.2.2.2.2.2.2.2.2.2.2.2.2.1), .ref (u.2.2.2.2.2.2.2.2.2.2.2.2.2.2.2.2)])), (u.2.2.2.2.2.2.2.2.2.2.2.2.2.1, .inl (cy, 256, .inl (fun j => nI ((fun _ => 0) j)))), (u.2.2.2.2.2.2.2.2.2.2.2.2.2.2.1, .inl (cy, 256, .inl (fun j => nI ((fun _ => 0) j)))), (u.2.2.2.2.2.2.2.2.2.2.2.2.2.2.2.1, .inl (cy, 256, .inl (fun j => nI ((fun _ => 0) j)))), (u.2.2.2.2.2.2.2.2.2.2.2.2.2.2.2.2, .inl (cy, 121, .inl (fun j => nI ((fun _ => 0) j))))]) := by
  refine tq_V.mk (by decide) (Nat.le_of_ble_eq_true rfl) ?_
  intro p e s m args below meth c A C hin hP hK hD hS hA ls hl
  obtain ⟨hx, hb, hml, hown, hrt, hlk, hT⟩ := id C
  have hl : lv_has ls 1 [(0, .ref o9)] := hl
  refine lv_aload_n hx hb dX4_init_0 rfl (lv_at hl 0 rfl) ?_
  refine W.objInit hx hb hown (hT.use ml_X4_1 rfl) (hT.use im_Object_init rfl) (hT.use cd_Object_init rfl) rfl (by rw [hml]; exact hl.1) rfl dX4_init_1 (Nat.le_of_ble_eq_true rfl) (Nat.le_of_ble_eq_true rfl) ?_
  refine W.eq (g2 := F0 m 4 ls []) rfl ?_
  refine lv_aload_n hx hb dX4_init_4 rfl (lv_at hl 0 rfl) ?_
  refine tq_new (fs := [.null, .null, .null, .int (nI (0)), .int (nI (0))]) (C0 := RX3) (T := TX3) (N := 5) (ci := 3) C gX3 inX3 tyX3_ok rfl clk_X4_7 inst_X3 ini_X3 hK hP hD hS hA (fun j hj => by match j, hj with | 0, _ => rfl | 1, _ => rfl | 2, _ => rfl | 3, _ => rfl | 4, _ => rfl | k9 + 5, h9 => exact absurd h9 (by omega)) (Nat.le_of_ble_eq_true rfl) (Nat.le_of_ble_eq_true rfl) dX4_init_5 (fun q5 H locs hP hD hS => ?_)
  have hP : va_P D vwCl [(o9, .inr (4, [.null, .null, .null])), (q5, .inr (3, [.null, .null, .null, .int (nI (0)), .int (nI (0))]))] H := hP
  have hD : va_D A [(o9, .inr (4, [.null, .null, .null])), (q5, .inr (3, [.null, .null, .null, .int (nI (0)), .int (nI (0))]))] := hD
  refine lv_dup hx hb dX4_init_8 rfl ?_
  refine tq_callV (W3 := fun u => [(o9, .inr (4, [.null, .null, .null])), (q5, .inr (3, [.ref (u.1), .ref (u.2.1), .ref (u.2.2), .int (nI (0)), .int (nI (3))])), (u.1, .inl (cy, 121, .inl (fun j => nI ((fun _ => 0) j)))), (u.2.1, .inl (cy, 121, .inl (fun j => nI ((fun _ => 0) j)))), (u.2.2, .inl (cy, 120, .inl (fun j => nI ((fun j => if j < 120 then j + 1 else 0) j))))]) (wr := [(o9, .inr (4, [.null, .null, .null]))]) (va_runI C.fix (As := []) (rest := [.ref (q5), .ref (o9)]) (c_X3_init l D cy q5 H.size) (tq_cI (n := 0) C ml_X4_9 im_X3_init ini_X3 cd_X3_init rfl ⟨by decide, by decide, by decide +kernel⟩ ⟨Nat.le_of_ble_eq_true rfl, Nat.le_of_ble_eq_true rfl⟩) ⟨tq_Pc.blind, tq_preC C hK (hP.sub [1] rfl) (hD.sub [1] (by decide) rfl)⟩ rfl rfl hl.1 rfl (lv_room (Nat.le_of_ble_eq_true rfl)) dX4_init_9 ⟨Nat.le_of_ble_eq_true rfl, Nat.le_of_ble_eq_true rfl⟩) hP hD hS hA [1] [0] [0, 1, 2, 3, 4] rfl rfl (by decide) (by decide) (by decide) (fun _ => rfl) (fun u9 H locs _ hP hD hS => ?_)
  obtain ⟨q7_9, q15_9, q23_9⟩ := u9
  have hP : va_P D vwCl [(o9, .inr (4, [.null, .null, .null])), (q5, .inr (3, [.ref (q7_9), .ref (q15_9), .ref (q23_9), .int (nI (0)), .int (nI (3))])), (q7_9, .inl (cy, 121, .inl (fun j => nI ((fun _ => 0) j)))), (q15_9, .inl (cy, 121, .inl (fun j => nI ((fun _ => 0) j)))), (q23_9, .inl (cy, 120, .inl (fun j => nI ((fun j => if j < 120 then j + 1 else 0) j))))] H := hP
  have hD : va_D A [(o9, .inr (4, [.null, .null, .null])), (q5, .inr (3, [.ref (q7_9), .ref (q15_9), .ref (q23_9), .int (nI (0)), .int (nI (3))])), (q7_9, .inl (cy, 121, .inl (fun j => nI ((fun _ => 0) j)))), (q15_9, .inl (cy, 121, .inl (fun j => nI ((fun _ => 0) j)))), (q23_9, .inl (cy, 120, .inl (fun j => nI ((fun j => if j < 120 then j + 1 else 0) j))))] := hD
  refine tq_putF (v := .ref (q5)) (C0 := RX4) (T := TX4) (N := 3) (ci := 4) (k := 0) (ty := (.object "TwinHashTables$Store")) C hin gX4 inX4 tyX4_ok nmX4 rfl (by decide) rfl rfl fl_X4_10 rfl (by decide +kernel) hK hP hD hS 0 rfl rfl rfl (Nat.le_of_ble_eq_true rfl) dX4_init_12 (fun H locs hP hD hS => ?_)
  have hP : va_P D vwCl [(o9, .inr (4, [.ref (q5), .null, .null])), (q5, .inr (3, [.ref (q7_9), .ref (q15_9), .ref (q23_9), .int (nI (0)), .int (nI (3))])), (q7_9, .inl (cy, 121, .inl (fun j => nI ((fun _ => 0) j)))), (q15_9, .inl (cy, 121, .inl (fun j => nI ((fun _ => 0) j)))), (q23_9, .inl (cy, 120, .inl (fun j => nI ((fun j => if j < 120 then j + 1 else 0) j))))] H := hP
  have hD : va_D A [(o9, .inr (4, [.ref (q5), .null, .null])), (q5, .inr (3, [.ref (q7_9), .ref (q15_9), .ref (q23_9), .int (nI (0)), .int (nI (3))])), (q7_9, .inl (cy, 121, .inl (fun j => nI ((fun _ => 0) j)))), (q15_9, .inl (cy, 121, .inl (fun j => nI ((fun _ => 0) j)))), (q23_9, .inl (cy, 120, .inl (fun j => nI ((fun j => if j < 120 then j + 1 else 0) j))))] := hD
  refine lv_aload_n hx hb dX4_init_15 rfl (lv_at hl 0 rfl) ?_
  refine tq_new (fs := [.null, .null, .null, .int (nI (0)), .int (nI (0)), .int (nI (0)), .int (nI (0)), .int (nI (0))]) (C0 := RX0) (T := TX0) (N := 8) (ci := 0) C gX0 inX0 tyX0_ok rfl clk_X4_16 inst_X0 ini_X0 hK hP hD hS hA (fun j hj => by match j, hj with | 0, _ => rfl | 1, _ => rfl | 2, _ => rfl | 3, _ => rfl | 4, _ => rfl | 5, _ => rfl | 6, _ => rfl | 7, _ => rfl | k9 + 8, h9 => exact absurd h9 (by omega)) (Nat.le_of_ble_eq_true rfl) (Nat.le_of_ble_eq_true rfl) dX4_init_16 (fun q16 H locs hP hD hS => ?_)
  have hP : va_P D vwCl [(o9, .inr (4, [.ref (q5), .null, .null])), (q5, .inr (3, [.ref (q7_9), .ref (q15_9), .ref (q23_9), .int (nI (0)), .int (nI (3))])), (q7_9, .inl (cy, 121, .inl (fun j => nI ((fun _ => 0) j)))), (q15_9, .inl (cy, 121, .inl (fun j => nI ((fun _ => 0) j)))), (q23_9, .inl (cy, 120, .inl (fun j => nI ((fun j => if j < 120 then j + 1 else 0) j)))), (q16, .inr (0, [.null, .null, .null, .int (nI (0)), .int (nI (0)), .int (nI (0)), .int (nI (0)), .int (nI (0))]))] H := hP
  have hD : va_D A [(o9, .inr (4, [.ref (q5), .null, .null])), (q5, .inr (3, [.ref (q7_9), .ref (q15_9), .ref (q23_9), .int (nI (0)), .int (nI (3))])), (q7_9, .inl (cy, 121, .inl (fun j => nI ((fun _ => 0) j)))), (q15_9, .inl (cy, 121, .inl (fun j => nI ((fun _ => 0) j)))), (q23_9, .inl (cy, 120, .inl (fun j => nI ((fun j => if j < 120 then j + 1 else 0) j)))), (q16, .inr (0, [.null, .null, .null, .int (nI (0)), .int (nI (0)), .int (nI (0)), .int (nI (0)), .int (nI (0))]))] := hD
  refine lv_dup hx hb dX4_init_19 rfl ?_
  refine lv_aload_n hx hb dX4_init_20 rfl (lv_at hl 0 rfl) ?_
  refine tq_get (C0 := RX4) (T := TX4) (N := 3) (ci := 4) (k := 0) C gX4 inX4 rfl (by decide) rfl fl_X4_10 hK hP 0 rfl rfl dX4_init_21 ?_
  refine tq_callV (W3 := fun u => [(o9, .inr (4, [.ref (q5), .null, .null])), (q5, .inr (3, [.ref (q7_9), .ref (q15_9), .ref (q23_9), .int (nI (0)), .int (nI (3))])), (q7_9, .inl (cy, 121, .inl (fun j => nI ((fun _ => 0) j)))), (q15_9, .inl (cy, 121, .inl (fun j => nI ((fun _ => 0) j)))), (q23_9, .inl (cy, 120, .inl (fun j => nI ((fun j => if j < 120 then j + 1 else 0) j)))), (q16, .inr (0, [.ref (q5), .ref (u.2.1), .ref (u.1), .int (nI (0)), .int (nI (0)), .int (nI (0)), .int (nI (0)), .int (nI (0))])), (u.1, .inl (cy, 256, .inl (fun j => nI ((fun _ => 0) j)))), (u.2.1, .inr (2, [.ref (q5), .ref (u.2.2.1), .ref (u.2.2.2.1), .ref (u.2.2.2.2.1), .ref (u.2.2.2.2.2)])), (u.2.2.1, .inl (cy, 256, .inl (fun j => nI ((fun _ => 0) j)))), (u.2.2.2.1, .inl (cy, 256, .inl (fun j => nI ((fun _ => 0) j)))), (u.2.2.2.2.1, .inl (cy, 256, .inl (fun j => nI ((fun _ => 0) j)))), (u.2.2.2.2.2, .inl (cy, 121, .inl (fun j => nI ((fun _ => 0) j))))]) (wr := [(o9, .inr (4, [.ref (q5), .null, .null])), (q5, .inr (3, [.ref (q7_9), .ref (q15_9), .ref (q23_9), .int (nI (0)), .int (nI (3))])), (q7_9, .inl (cy, 121, .inl (fun j => nI ((fun _ => 0) j)))), (q15_9, .inl (cy, 121, .inl (fun j => nI ((fun _ => 0) j)))), (q23_9, .inl (cy, 120, .inl (fun j => nI ((fun j => if j < 120 then j + 1 else 0) j))))]) (va_runI C.fix (As := [.ref (q5)]) (rest := [.ref (q16), .ref (o9)]) (c_X0_init l D cy q16 q5 H.size) (tq_cI (n := 1) C ml_X4_18 im_X0_init ini_X0 cd_X0_init rfl ⟨by decide, by decide, by decide +kernel⟩ ⟨Nat.le_of_ble_eq_true rfl, Nat.le_of_ble_eq_true rfl⟩) ⟨tq_Pc.blind, tq_preC C hK (hP.sub [5] rfl) (hD.sub [5] (by decide) rfl)⟩ rfl rfl hl.1 rfl (lv_room (Nat.le_of_ble_eq_true rfl)) dX4_init_24 ⟨Nat.le_of_ble_eq_true rfl, Nat.le_of_ble_eq_true rfl⟩) hP hD hS hA [5] [0, 1, 2, 3, 4] [0, 1, 2, 3, 4, 5, 6, 7, 8, 9, 10, 11] rfl rfl (by decide) (by decide) (by decide) (fun _ => rfl) (fun u24 H locs _ hP hD hS => ?_)
  obtain ⟨q8_24, q44_24, q8_49_24, q17_49_24, q26_49_24, q34_49_24⟩ := u24
  have hP : va_P D vwCl [(o9, .inr (4, [.ref (q5), .null, .null])), (q5, .inr (3, [.ref (q7_9), .ref (q15_9), .ref (q23_9), .int (nI (0)), .int (nI (3))])), (q7_9, .inl (cy, 121, .inl (fun j => nI ((fun _ => 0) j)))), (q15_9, .inl (cy, 121, .inl (fun j => nI ((fun _ => 0) j)))), (q23_9, .inl (cy, 120, .inl (fun j => nI ((fun j => if j < 120 then j + 1 else 0) j)))), (q16, .inr (0, [.ref (q5), .ref (q44_24), .ref (q8_24), .int (nI (0)), .int (nI (0)), .int (nI (0)), .int (nI (0)), .int (nI (0))])), (q8_24, .inl (cy, 256, .inl (fun j => nI ((fun _ => 0) j)))), (q44_24, .inr (2, [.ref (q5), .ref (q8_49_24), .ref (q17_49_24), .ref (q26_49_24), .ref (q34_49_24)])), (q8_49_24, .inl (cy, 256, .inl (fun j => nI ((fun _ => 0) j)))), (q17_49_24, .inl (cy, 256, .inl (fun j => nI ((fun _ => 0) j)))), (q26_49_24, .inl (cy, 256, .inl (fun j => nI ((fun _ => 0) j)))), (q34_49_24, .inl (cy, 121, .inl (fun j => nI ((fun _ => 0) j))))] H := hP
  have hD : va_D A [(o9, .inr (4, [.ref (q5), .null, .null])), (q5, .inr (3, [.ref (q7_9), .ref (q15_9), .ref (q23_9), .int (nI (0)), .int (nI (3))])), (q7_9, .inl (cy, 121, .inl (fun j => nI ((fun _ => 0) j)))), (q15_9, .inl (cy, 121, .inl (fun j => nI ((fun _ => 0) j)))), (q23_9, .inl (cy, 120, .inl (fun j => nI ((fun j => if j < 120 then j + 1 else 0) j)))), (q16, .inr (0, [.ref (q5), .ref (q44_24), .ref (q8_24), .int (nI (0)), .int (nI (0)), .int (nI (0)), .int (nI (0)), .int (nI (0))])), (q8_24, .inl (cy, 256, .inl (fun j => nI ((fun _ => 0) j)))), (q44_24, .inr (2, [.ref (q5), .ref (q8_49_24), .ref (q17_49_24), .ref (q26_49_24), .ref (q34_49_24)])), (q8_49_24, .inl (cy, 256, .inl (fun j => nI ((fun _ => 0) j)))), (q17_49_24, .inl (cy, 256, .inl (fun j => nI ((fun _ => 0) j)))), (q26_49_24, .inl (cy, 256, .inl (fun j => nI ((fun _ => 0) j)))), (q34_49_24, .inl (cy, 121, .inl (fun j => nI ((fun _ => 0) j))))] := hD
  refine tq_putF (v := .ref (q16)) (C0 := RX4) (T := TX4) (N := 3) (ci := 4) (k := 1) (ty := (.object "TwinHashTables$Extendible")) C hin gX4 inX4 tyX4_ok nmX4 rfl (by decide) rfl rfl fl_X4_21 rfl (by decide +kernel) hK hP hD hS 0 rfl rfl rfl (Nat.le_of_ble_eq_true rfl) dX4_init_27 (fun H locs hP hD hS => ?_)
  have hP : va_P D vwCl [(o9, .inr (4, [.ref (q5), .ref (q16), .null])), (q5, .inr (3, [.ref (q7_9), .ref (q15_9), .ref (q23_9), .int (nI (0)), .int (nI (3))])), (q7_9, .inl (cy, 121, .inl (fun j => nI ((fun _ => 0) j)))), (q15_9, .inl (cy, 121, .inl (fun j => nI ((fun _ => 0) j)))), (q23_9, .inl (cy, 120, .inl (fun j => nI ((fun j => if j < 120 then j + 1 else 0) j)))), (q16, .inr (0, [.ref (q5), .ref (q44_24), .ref (q8_24), .int (nI (0)), .int (nI (0)), .int (nI (0)), .int (nI (0)), .int (nI (0))])), (q8_24, .inl (cy, 256, .inl (fun j => nI ((fun _ => 0) j)))), (q44_24, .inr (2, [.ref (q5), .ref (q8_49_24), .ref (q17_49_24), .ref (q26_49_24), .ref (q34_49_24)])), (q8_49_24, .inl (cy, 256, .inl (fun j => nI ((fun _ => 0) j)))), (q17_49_24, .inl (cy, 256, .inl (fun j => nI ((fun _ => 0) j)))), (q26_49_24, .inl (cy, 256, .inl (fun j => nI ((fun _ => 0) j)))), (q34_49_24, .inl (cy, 121, .inl (fun j => nI ((fun _ => 0) j))))] H := hP
  have hD : va_D A [(o9, .inr (4, [.ref (q5), .ref (q16), .null])), (q5, .inr (3, [.ref (q7_9), .ref (q15_9), .ref (q23_9), .int (nI (0)), .int (nI (3))])), (q7_9, .inl (cy, 121, .inl (fun j => nI ((fun _ => 0) j)))), (q15_9, .inl (cy, 121, .inl (fun j => nI ((fun _ => 0) j)))), (q23_9, .inl (cy, 120, .inl (fun j => nI ((fun j => if j < 120 then j + 1 else 0) j)))), (q16, .inr (0, [.ref (q5), .ref (q44_24), .ref (q8_24), .int (nI (0)), .int (nI (0)), .int (nI (0)), .int (nI (0)), .int (nI (0))])), (q8_24, .inl (cy, 256, .inl (fun j => nI ((fun _ => 0) j)))), (q44_24, .inr (2, [.ref (q5), .ref (q8_49_24), .ref (q17_49_24), .ref (q26_49_24), .ref (q34_49_24)])), (q8_49_24, .inl (cy, 256, .inl (fun j => nI ((fun _ => 0) j)))), (q17_49_24, .inl (cy, 256, .inl (fun j => nI ((fun _ => 0) j)))), (q26_49_24, .inl (cy, 256, .inl (fun j => nI ((fun _ => 0) j)))), (q34_49_24, .inl (cy, 121, .inl (fun j => nI ((fun _ => 0) j))))] := hD
  refine lv_aload_n hx hb dX4_init_30 rfl (lv_at hl 0 rfl) ?_
  refine tq_new (fs := [.null, .null, .int (nI (0)), .int (nI (0)), .int (nI (0)), .int (nI (0)), .int (nI (0))]) (C0 := RX1) (T := TX1) (N := 7) (ci := 1) C gX1 inX1 tyX1_ok rfl clk_X4_25 inst_X1 ini_X1 hK hP hD hS hA (fun j hj => by match j, hj with | 0, _ => rfl | 1, _ => rfl | 2, _ => rfl | 3, _ => rfl | 4, _ => rfl | 5, _ => rfl | 6, _ => rfl | k9 + 7, h9 => exact absurd h9 (by omega)) (Nat.le_of_ble_eq_true rfl) (Nat.le_of_ble_eq_true rfl) dX4_init_31 (fun q31 H locs hP hD hS => ?_)
  have hP : va_P D vwCl [(o9, .inr (4, [.ref (q5), .ref (q16), .null])), (q5, .inr (3, [.ref (q7_9), .ref (q15_9), .ref (q23_9), .int (nI (0)), .int (nI (3))])), (q7_9, .inl (cy, 121, .inl (fun j => nI ((fun _ => 0) j)))), (q15_9, .inl (cy, 121, .inl (fun j => nI ((fun _ => 0) j)))), (q23_9, .inl (cy, 120, .inl (fun j => nI ((fun j => if j < 120 then j + 1 else 0) j)))), (q16, .inr (0, [.ref (q5), .ref (q44_24), .ref (q8_24), .int (nI (0)), .int (nI (0)), .int (nI (0)), .int (nI (0)), .int (nI (0))])), (q8_24, .inl (cy, 256, .inl (fun j => nI ((fun _ => 0) j)))), (q44_24, .inr (2, [.ref (q5), .ref (q8_49_24), .ref (q17_49_24), .ref (q26_49_24), .ref (q34_49_24)])), (q8_49_24, .inl (cy, 256, .inl (fun j => nI ((fun _ => 0) j)))), (q17_49_24, .inl (cy, 256, .inl (fun j => nI ((fun _ => 0) j)))), (q26_49_24, .inl (cy, 256, .inl (fun j => nI ((fun _ => 0) j)))), (q34_49_24, .inl (cy, 121, .inl (fun j => nI ((fun _ => 0) j)))), (q31, .inr (1, [.null, .null, .int (nI (0)), .int (nI (0)), .int (nI (0)), .int (nI (0)), .int (nI (0))]))] H := hP
  have hD : va_D A [(o9, .inr (4, [.ref (q5), .ref (q16), .null])), (q5, .inr (3, [.ref (q7_9), .ref (q15_9), .ref (q23_9), .int (nI (0)), .int (nI (3))])), (q7_9, .inl (cy, 121, .inl (fun j => nI ((fun _ => 0) j)))), (q15_9, .inl (cy, 121, .inl (fun j => nI ((fun _ => 0) j)))), (q23_9, .inl (cy, 120, .inl (fun j => nI ((fun j => if j < 120 then j + 1 else 0) j)))), (q16, .inr (0, [.ref (q5), .ref (q44_24), .ref (q8_24), .int (nI (0)), .int (nI (0)), .int (nI (0)), .int (nI (0)), .int (nI (0))])), (q8_24, .inl (cy, 256, .inl (fun j => nI ((fun _ => 0) j)))), (q44_24, .inr (2, [.ref (q5), .ref (q8_49_24), .ref (q17_49_24), .ref (q26_49_24), .ref (q34_49_24)])), (q8_49_24, .inl (cy, 256, .inl (fun j => nI ((fun _ => 0) j)))), (q17_49_24, .inl (cy, 256, .inl (fun j => nI ((fun _ => 0) j)))), (q26_49_24, .inl (cy, 256, .inl (fun j => nI ((fun _ => 0) j)))), (q34_49_24, .inl (cy, 121, .inl (fun j => nI ((fun _ => 0) j)))), (q31, .inr (1, [.null, .null, .int (nI (0)), .int (nI (0)), .int (nI (0)), .int (nI (0)), .int (nI (0))]))] := hD
  refine lv_dup hx hb dX4_init_34 rfl ?_
  refine lv_aload_n hx hb dX4_init_35 rfl (lv_at hl 0 rfl) ?_
  refine tq_get (C0 := RX4) (T := TX4) (N := 3) (ci := 4) (k := 0) C gX4 inX4 rfl (by decide) rfl fl_X4_10 hK hP 0 rfl rfl dX4_init_36 ?_
  refine tq_callV (W3 := fun u => [(o9, .inr (4, [.ref (q5), .ref (q16), .null])), (q5, .inr (3, [.ref (q7_9), .ref (q15_9), .ref (q23_9), .int (nI (0)), .int (nI (3))])), (q7_9, .inl (cy, 121, .inl (fun j => nI ((fun _ => 0) j)))), (q15_9, .inl (cy, 121, .inl (fun j => nI ((fun _ => 0) j)))), (q23_9, .inl (cy, 120, .inl (fun j => nI ((fun j => if j < 120 then j + 1 else 0) j)))), (q16, .inr (0, [.ref (q5), .ref (q44_24), .ref (q8_24), .int (nI (0)), .int (nI (0)), .int (nI (0)), .int (nI (0)), .int (nI (0))])), (q8_24, .inl (cy, 256, .inl (fun j => nI ((fun _ => 0) j)))), (q44_24, .inr (2, [.ref (q5), .ref (q8_49_24), .ref (q17_49_24), .ref (q26_49_24), .ref (q34_49_24)])), (q8_49_24, .inl (cy, 256, .inl (fun j => nI ((fun _ => 0) j)))), (q17_49_24, .inl (cy, 256, .inl (fun j => nI ((fun _ => 0) j)))), (q26_49_24, .inl (cy, 256, .inl (fun j => nI ((fun _ => 0) j)))), (q34_49_24, .inl (cy, 121, .inl (fun j => nI ((fun _ => 0) j)))), (q31, .inr (1, [.ref (q5), .ref (u.1), .int (nI (0)), .int (nI (0)), .int (nI (30)), .int (nI (80)), .int (nI (0))])), (u.1, .inr (2, [.ref (q5), .ref (u.2.1), .ref (u.2.2.1), .ref (u.2.2.2.1), .ref (u.2.2.2.2)])), (u.2.1, .inl (cy, 256, .inl (fun j => nI ((fun _ => 0) j)))), (u.2.2.1, .inl (cy, 256, .inl (fun j => nI ((fun _ => 0) j)))), (u.2.2.2.1, .inl (cy, 256, .inl (fun j => nI ((fun _ => 0) j)))), (u.2.2.2.2, .inl (cy, 121, .inl (fun j => nI ((fun _ => 0) j))))]) (wr := [(o9, .inr (4, [.ref (q5), .ref (q16), .null])), (q5, .inr (3, [.ref (q7_9), .ref (q15_9), .ref (q23_9), .int (nI (0)), .int (nI (3))])), (q7_9, .inl (cy, 121, .inl (fun j => nI ((fun _ => 0) j)))), (q15_9, .inl (cy, 121, .inl (fun j => nI ((fun _ => 0) j)))), (q23_9, .inl (cy, 120, .inl (fun j => nI ((fun j => if j < 120 then j + 1 else 0) j)))), (q16, .inr (0, [.ref (q5), .ref (q44_24), .ref (q8_24), .int (nI (0)), .int (nI (0)), .int (nI (0)), .int (nI (0)), .int (nI (0))])), (q8_24, .inl (cy, 256, .inl (fun j => nI ((fun _ => 0) j)))), (q44_24, .inr (2, [.ref (q5), .ref (q8_49_24), .ref (q17_49_24), .ref (q26_49_24), .ref (q34_49_24)])), (q8_49_24, .inl (cy, 256, .inl (fun j => nI ((fun _ => 0) j)))), (q17_49_24, .inl (cy, 256, .inl (fun j => nI ((fun _ => 0) j)))), (q26_49_24, .inl (cy, 256, .inl (fun j => nI ((fun _ => 0) j)))), (q34_49_24, .inl (cy, 121, .inl (fun j => nI ((fun _ => 0) j))))]) (va_runI C.fix (As := [.ref (q5)]) (rest := [.ref (q31), .ref (o9)]) (c_X1_init l D cy q31 q5 H.size) (tq_cI (n := 1) C ml_X4_27 im_X1_init ini_X1 cd_X1_init rfl ⟨by decide, by decide, by decide +kernel⟩ ⟨Nat.le_of_ble_eq_true rfl, Nat.le_of_ble_eq_true rfl⟩) ⟨tq_Pc.blind, tq_preC C hK (hP.sub [12] rfl) (hD.sub [12] (by decide) rfl)⟩ rfl rfl hl.1 rfl (lv_room (Nat.le_of_ble_eq_true rfl)) dX4_init_39 ⟨Nat.le_of_ble_eq_true rfl, Nat.le_of_ble_eq_true rfl⟩) hP hD hS hA [12] [0, 1, 2, 3, 4, 5, 6, 7, 8, 9, 10, 11] [0, 1, 2, 3, 4, 5, 6, 7, 8, 9, 10, 11, 12, 13, 14, 15, 16, 17] rfl rfl (by decide) (by decide) (by decide) (fun _ => rfl) (fun u39 H locs _ hP hD hS => ?_)
  obtain ⟨q37_39, q8_42_39, q17_42_39, q26_42_39, q34_42_39⟩ := u39
  have hP : va_P D vwCl [(o9, .inr (4, [.ref (q5), .ref (q16), .null])), (q5, .inr (3, [.ref (q7_9), .ref (q15_9), .ref (q23_9), .int (nI (0)), .int (nI (3))])), (q7_9, .inl (cy, 121, .inl (fun j => nI ((fun _ => 0) j)))), (q15_9, .inl (cy, 121, .inl (fun j => nI ((fun _ => 0) j)))), (q23_9, .inl (cy, 120, .inl (fun j => nI ((fun j => if j < 120 then j + 1 else 0) j)))), (q16, .inr (0, [.ref (q5), .ref (q44_24), .ref (q8_24), .int (nI (0)), .int (nI (0)), .int (nI (0)), .int (nI (0)), .int (nI (0))])), (q8_24, .inl (cy, 256, .inl (fun j => nI ((fun _ => 0) j)))), (q44_24, .inr (2, [.ref (q5), .ref (q8_49_24), .ref (q17_49_24), .ref (q26_49_24), .ref (q34_49_24)])), (q8_49_24, .inl (cy, 256, .inl (fun j => nI ((fun _ => 0) j)))), (q17_49_24, .inl (cy, 256, .inl (fun j => nI ((fun _ => 0) j)))), (q26_49_24, .inl (cy, 256, .inl (fun j => nI ((fun _ => 0) j)))), (q34_49_24, .inl (cy, 121, .inl (fun j => nI ((fun _ => 0) j)))), (q31, .inr (1, [.ref (q5), .ref (q37_39), .int (nI (0)), .int (nI (0)), .int (nI (30)), .int (nI (80)), .int (nI (0))])), (q37_39, .inr (2, [.ref (q5), .ref (q8_42_39), .ref (q17_42_39), .ref (q26_42_39), .ref (q34_42_39)])), (q8_42_39, .inl (cy, 256, .inl (fun j => nI ((fun _ => 0) j)))), (q17_42_39, .inl (cy, 256, .inl (fun j => nI ((fun _ => 0) j)))), (q26_42_39, .inl (cy, 256, .inl (fun j => nI ((fun _ => 0) j)))), (q34_42_39, .inl (cy, 121, .inl (fun j => nI ((fun _ => 0) j))))] H := hP
  have hD : va_D A [(o9, .inr (4, [.ref (q5), .ref (q16), .null])), (q5, .inr (3, [.ref (q7_9), .ref (q15_9), .ref (q23_9), .int (nI (0)), .int (nI (3))])), (q7_9, .inl (cy, 121, .inl (fun j => nI ((fun _ => 0) j)))), (q15_9, .inl (cy, 121, .inl (fun j => nI ((fun _ => 0) j)))), (q23_9, .inl (cy, 120, .inl (fun j => nI ((fun j => if j < 120 then j + 1 else 0) j)))), (q16, .inr (0, [.ref (q5), .ref (q44_24), .ref (q8_24), .int (nI (0)), .int (nI (0)), .int (nI (0)), .int (nI (0)), .int (nI (0))])), (q8_24, .inl (cy, 256, .inl (fun j => nI ((fun _ => 0) j)))), (q44_24, .inr (2, [.ref (q5), .ref (q8_49_24), .ref (q17_49_24), .ref (q26_49_24), .ref (q34_49_24)])), (q8_49_24, .inl (cy, 256, .inl (fun j => nI ((fun _ => 0) j)))), (q17_49_24, .inl (cy, 256, .inl (fun j => nI ((fun _ => 0) j)))), (q26_49_24, .inl (cy, 256, .inl (fun j => nI ((fun _ => 0) j)))), (q34_49_24, .inl (cy, 121, .inl (fun j => nI ((fun _ => 0) j)))), (q31, .inr (1, [.ref (q5), .ref (q37_39), .int (nI (0)), .int (nI (0)), .int (nI (30)), .int (nI (80)), .int (nI (0))])), (q37_39, .inr (2, [.ref (q5), .ref (q8_42_39), .ref (q17_42_39), .ref (q26_42_39), .ref (q34_42_39)])), (q8_42_39, .inl (cy, 256, .inl (fun j => nI ((fun _ => 0) j)))), (q17_42_39, .inl (cy, 256, .inl (fun j => nI ((fun _ => 0) j)))), (q26_42_39, .inl (cy, 256, .inl (fun j => nI ((fun _ => 0) j)))), (q34_42_39, .inl (cy, 121, .inl (fun j => nI ((fun _ => 0) j))))] := hD
  refine tq_putF (v := .ref (q31)) (C0 := RX4) (T := TX4) (N := 3) (ci := 4) (k := 2) (ty := (.object "TwinHashTables$Linear")) C hin gX4 inX4 tyX4_ok nmX4 rfl (by decide) rfl rfl fl_X4_28 rfl (by decide +kernel) hK hP hD hS 0 rfl rfl rfl (Nat.le_of_ble_eq_true rfl) dX4_init_42 (fun H locs hP hD hS => ?_)
  have hP : va_P D vwCl [(o9, .inr (4, [.ref (q5), .ref (q16), .ref (q31)])), (q5, .inr (3, [.ref (q7_9), .ref (q15_9), .ref (q23_9), .int (nI (0)), .int (nI (3))])), (q7_9, .inl (cy, 121, .inl (fun j => nI ((fun _ => 0) j)))), (q15_9, .inl (cy, 121, .inl (fun j => nI ((fun _ => 0) j)))), (q23_9, .inl (cy, 120, .inl (fun j => nI ((fun j => if j < 120 then j + 1 else 0) j)))), (q16, .inr (0, [.ref (q5), .ref (q44_24), .ref (q8_24), .int (nI (0)), .int (nI (0)), .int (nI (0)), .int (nI (0)), .int (nI (0))])), (q8_24, .inl (cy, 256, .inl (fun j => nI ((fun _ => 0) j)))), (q44_24, .inr (2, [.ref (q5), .ref (q8_49_24), .ref (q17_49_24), .ref (q26_49_24), .ref (q34_49_24)])), (q8_49_24, .inl (cy, 256, .inl (fun j => nI ((fun _ => 0) j)))), (q17_49_24, .inl (cy, 256, .inl (fun j => nI ((fun _ => 0) j)))), (q26_49_24, .inl (cy, 256, .inl (fun j => nI ((fun _ => 0) j)))), (q34_49_24, .inl (cy, 121, .inl (fun j => nI ((fun _ => 0) j)))), (q31, .inr (1, [.ref (q5), .ref (q37_39), .int (nI (0)), .int (nI (0)), .int (nI (30)), .int (nI (80)), .int (nI (0))])), (q37_39, .inr (2, [.ref (q5), .ref (q8_42_39), .ref (q17_42_39), .ref (q26_42_39), .ref (q34_42_39)])), (q8_42_39, .inl (cy, 256, .inl (fun j => nI ((fun _ => 0) j)))), (q17_42_39, .inl (cy, 256, .inl (fun j => nI ((fun _ => 0) j)))), (q26_42_39, .inl (cy, 256, .inl (fun j => nI ((fun _ => 0) j)))), (q34_42_39, .inl (cy, 121, .inl (fun j => nI ((fun _ => 0) j))))] H := hP
  have hD : va_D A [(o9, .inr (4, [.ref (q5), .ref (q16), .ref (q31)])), (q5, .inr (3, [.ref (q7_9), .ref (q15_9), .ref (q23_9), .int (nI (0)), .int (nI (3))])), (q7_9, .inl (cy, 121, .inl (fun j => nI ((fun _ => 0) j)))), (q15_9, .inl (cy, 121, .inl (fun j => nI ((fun _ => 0) j)))), (q23_9, .inl (cy, 120, .inl (fun j => nI ((fun j => if j < 120 then j + 1 else 0) j)))), (q16, .inr (0, [.ref (q5), .ref (q44_24), .ref (q8_24), .int (nI (0)), .int (nI (0)), .int (nI (0)), .int (nI (0)), .int (nI (0))])), (q8_24, .inl (cy, 256, .inl (fun j => nI ((fun _ => 0) j)))), (q44_24, .inr (2, [.ref (q5), .ref (q8_49_24), .ref (q17_49_24), .ref (q26_49_24), .ref (q34_49_24)])), (q8_49_24, .inl (cy, 256, .inl (fun j => nI ((fun _ => 0) j)))), (q17_49_24, .inl (cy, 256, .inl (fun j => nI ((fun _ => 0) j)))), (q26_49_24, .inl (cy, 256, .inl (fun j => nI ((fun _ => 0) j)))), (q34_49_24, .inl (cy, 121, .inl (fun j => nI ((fun _ => 0) j)))), (q31, .inr (1, [.ref (q5), .ref (q37_39), .int (nI (0)), .int (nI (0)), .int (nI (30)), .int (nI (80)), .int (nI (0))])), (q37_39, .inr (2, [.ref (q5), .ref (q8_42_39), .ref (q17_42_39), .ref (q26_42_39), .ref (q34_42_39)])), (q8_42_39, .inl (cy, 256, .inl (fun j => nI ((fun _ => 0) j)))), (q17_42_39, .inl (cy, 256, .inl (fun j => nI ((fun _ => 0) j)))), (q26_42_39, .inl (cy, 256, .inl (fun j => nI ((fun _ => 0) j)))), (q34_42_39, .inl (cy, 121, .inl (fun j => nI ((fun _ => 0) j))))] := hD
  exact tq_vret C (q5, q7_9, q15_9, q23_9, q16, q8_24, q44_24, q8_49_24, q17_49_24, q26_49_24, q34_49_24, q31, q37_39, q8_42_39, q17_42_39, q26_42_39, q34_42_39) hP hD hS trivial (Nat.le_of_ble_eq_true rfl) (Nat.le_of_ble_eq_true rfl) dX4_init_45
end
