/-! a read of a world without an answer, that does not throw -/
def tq_Qu : Array Value → State → Outcome → State → Prop := fun _ st oc t => oc = .returned none ∧ t.heap = st.heap
def tq_U (l : Launch) (y : MethodName) (b : ByteArray) (nL : Nat) (fr lo : Nat) (D : va_G) (cy : ClassId) (Ws : va_W) (av : List Value) : Prop :=
  Met l y [.code y b nL none] { frames := fr, cells := 0, slots := 0, locals := lo } (tq_Pf D cy Ws av) tq_Qu 0 0 (fun _ => False)
section TU
variable {p : Program} {l : Launch} {e : Env} {R : Room} {s : State} {m : MethodId} {args : Array Value} {below : List Frame} {meth : Method} {c : Code} {H : Heap} {locs : List Loc} {cells slots : Nat} {Q : State → Prop}
variable {D : va_G} {cy : ClassId} {own : String} {cc : ByteArray} {nL : Nat} {rt : Option FieldType} {A : Nat → Prop} {ws Ws Wc : va_W} {pc : Nat} {ls : Array Slot} {rest : List Value}
theorem tq_U.mk {y : MethodName} {b : ByteArray} {fr lo : Nat} {av : List Value} (hy : plainName y.cls = true) (he : (lg_sl av).length ≤ nL)
    (body : ∀ (p : Program) (e : Env) (s : State) (m : MethodId) (args : Array Value) (below : List Frame) (meth : Method) (c : Code), tq_C p s m meth c y.cls b nL none → va_P D vwCl Ws s.heap → va_K D vwCl (tq_ty cy) s →
      ∀ ls : Array Slot, lv_has ls nL (lv_args 0 av) → W p l e { frames := fr, cells := 0, slots := 0, locals := lo } s m args below meth c s.heap [] 0 0 (MQ below tq_Qu args s 0 0 (fun _ => False)) (F0 m 0 ls [])) :
    tq_U l y b nL fr lo D cy Ws av := by
  refine Met.ofW (cc := b) (maxL := nL) (ret := none) hy rfl ?_
  intro p e s m args below meth c s₁ B hml hv
  obtain ⟨rfl, hT, hP, hK⟩ := hv
  rw [lg_entry_eq]
  exact body p e s m _ below meth c ⟨B.exec, B.bytes, hml, findClass_of_methodNamed B.named, B.returns, B.notSynchronized, hT⟩ hP hK _ (lv_entry av he)
theorem tq_uret (C : tq_C p s m meth c own cc nL none) (hdg : decode cc pc = .ok (.return_, 1)) :
    W p l e R s m args below meth c s.heap [] 0 0 (MQ below tq_Qu args s 0 0 (fun _ => False)) (F0 m pc ls []) :=
  W.vret C.1 C.2.1 C.2.2.2.2.1 (fun t ht hW => ⟨rfl, ht⟩) (fun q h => nomatch h) hdg (hlocks := C.2.2.2.2.2.1)
theorem tq_callU {a : Array Value} {st0 : List Value} (hr : va_Run p l e R s m args below meth c H locs cells slots 0 0 (F0 m pc ls st0) rest (tq_Qu a) (fun _ => False))
    (kk : W p l e R s m args below meth c H locs cells slots Q (F0 m (pc + 3) ls rest)) : W p l e R s m args below meth c H locs cells slots Q (F0 m pc ls st0) := by
  intro T hT X
  obtain ⟨v, st₀, t, T', L, h0, X', hL, e1, e2, ⟨hv, hh⟩, st⟩ := hr T hT X
  cases hv
  obtain rfl := tq_nil hL
  rw [List.append_nil] at X'
  obtain ⟨t2, a1, b1⟩ := kk T' (by rw [e1, hh, h0]) X'
  exact ⟨t2, st t2 a1, b1⟩
end TU
