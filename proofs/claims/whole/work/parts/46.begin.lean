/-! THE CLAIM OUT OF ONE WALK OF THE LAW'S BODY. Your part is whole_start (and what it stands on); all else here is the same for every law, but numbers. -/
def R_law : String := "TwinHashTablesLaw"
def lw_P (b : Addr) (xs : List Int32) (args : Array Value) (s : State) : Prop := args = #[.ref b] ∧ s.IntsAt b xs ∧ xs.length ≤ 1536 ∧ (Jvm.Cond.and given_1 narrow_1).before args s = true
def lw_Q (_ : Array Value) (s : State) (o : Outcome) (t : State) : Prop := o = .returned (some (.int 1)) ∧ Framed s o t [] 1053 11515
def lw_Z (below : List Frame) (a : Array Value) (s : State) : State → Prop := fun t => ∃ o, t.status = .running ∧ Ended t below o ∧ lw_Q a s o t
/-- the law's own end, with 1 on the stack, nothing written that was there before, its room as the claim has it -/
theorem lw_ret {p : Program} {l : Launch} {e : Env} {s : State} {m : MethodId} {below : List Frame} {meth : Method} {c : Code} {b : Nat} (hx : p.tables.exec = Jvm.exec) (hb : c.code = code) (hr : meth.sig.returnType = ret) (hlocks : meth.locks = false) {pc : Nat} {H : Heap} {ls : Array Slot} (hdg : decode code pc = .ok (.ireturn, 1)) : W p l e room_1 s m #[Value.ref b] below meth c H [] 1053 11515 (lw_Z below #[Value.ref b] s) (F0 m pc ls [.int 1]) := by
  intro T hT X
  obtain ⟨fs, hret, hrun, hended, hW, hframe⟩ := X.leave (v := some (.int 1)) (hlocks := hlocks) (fun h => by rw [hr] at h; cases h)
  have hmeth' : T.vm.method? m = some meth := X.method'
  refine ⟨T.setFrames fs, ?_, .returned (some (.int 1)), hrun, hended, rfl, ⟨_, rfl⟩, hW, hframe⟩
  jvm_step X.here [X.here.top, hx, hb, hdg, hmeth', hr, ret, narrow_b1]
  (try refine ⟨rfl, ?_⟩); (try refine ⟨rfl, ?_⟩)
  first | (intro acts; rw [hret _ acts rfl rfl rfl]) | rw [hret _ _ rfl rfl rfl]
  exact Steps.refl _
/-- what holds at the law's entry: the machine, the code, the tables' words (any of lw_tbl by 'hts w (by decide +kernel)'), the script of L ints xs at the cell b, what the Statement gives of the start (any of its parts by flat_of_before) -/
def lw_At (p : Program) (s : State) (m : MethodId) (meth : Method) (c : Code) (b L : Nat) (xs : Nat → Int32) : Prop :=
  p.tables.exec = Jvm.exec ∧ c.code = code ∧ meth.sig.returnType = ret ∧ c.maxLocals = 7 ∧ s.vm.findClass R_law = some m.cls ∧ (∀ w ∈ lw_tbl, w.before #[Value.ref b] s = true) ∧ va_X b L xs s s.heap ∧ b < s.heap.size ∧ meth.locks = false ∧ (Jvm.Cond.and given_1 narrow_1).before #[Value.ref b] s = true

theorem and63 (x : Int32) : ∃ j : Nat, j < 64 ∧ x &&& nI 63 = nI j := by
  refine ⟨(x &&& nI 63).toBitVec.toNat, ?_, ?_⟩
  · show (x.toBitVec &&& (nI 63).toBitVec).toNat < 64
    rw [BitVec.toNat_and]
    exact Nat.lt_of_le_of_lt Nat.and_le_right (by decide)
  · apply Int32.toBitVec_inj.mp
    show (x &&& nI 63).toBitVec = BitVec.ofNat 32 (x &&& nI 63).toBitVec.toNat
    rw [BitVec.ofNat_toNat, BitVec.setWidth_eq]
theorem tq_more {N i : Nat} (hN : N ≤ 1536) (hi : i ≤ 2000) (h : ¬ Int32.ofNat N - nI 3 < nI i) : i + 2 < N := by
  rcases Nat.lt_or_ge N 3 with q | q
  · refine absurd ?_ h
    refine Int32.lt_of_lt_of_le ?_ (nI_le (Nat.zero_le i) (by omega))
    rcases (show N = 0 ∨ N = 1 ∨ N = 2 by omega) with rfl | rfl | rfl <;> decide
  · rcases Nat.lt_or_ge (i + 2) N with z | z
    · exact z
    · refine absurd ?_ h
      have e : Int32.ofNat N - nI 3 = nI (N - 3) := by
        have : N = (N - 3) + 3 := by omega
        show Int32.ofNat N - Int32.ofNat 3 = Int32.ofNat (N - 3)
        rw [this, Int32.ofNat_add, Nat.add_sub_cancel]
        exact Int32.add_sub_cancel _ _
      rw [e]
      exact nI_lt (by omega) (by omega)
theorem tq_arr {args : Array Value} {s : State} (h : (Cond.arrayClass .int).before args s = true) : ∃ cA, ArrOfT s cA .int ∧ va_RA s cA .int := by
  obtain ⟨cA, kA, comp, hfind, hk, hkind⟩ := Cond.arrayClass_spec h
  exact ⟨cA, fun n z => ⟨fun k h => (by cases h), kA, hk, comp, hkind⟩, hfind⟩
theorem tq_arrl {args : Array Value} {s : State} (h : (Cond.arrayClass .long).before args s = true) : ∃ cA, ArrOfT s cA .long ∧ va_RA s cA .long := by
  obtain ⟨cA, kA, comp, hfind, hk, hkind⟩ := Cond.arrayClass_spec h
  exact ⟨cA, fun n z => ⟨fun k h => (by cases h), kA, hk, comp, hkind⟩, hfind⟩
/-- a new array of one long -/
theorem tq_newl {p : Program} {l : Launch} {e : Env} {R : Room} {s : State} {m : MethodId} {args : Array Value} {below : List Frame} {meth : Method} {c : Code} {H : Heap} {locs : List Loc} {cells slots : Nat} {Q : State → Prop} {D : va_G} {cy cq : ClassId} {own : String} {cc : ByteArray} {nL : Nat} {rt : Option FieldType} {A : Nat → Prop} {ws : va_W} {pc : Nat} {ls : Array Slot} {rest : List Value}
    (C : tq_C p s m meth c own cc nL rt) (hK : va_K D vwCl (tq_ty2 cy cq) s) (hP : va_P D vwCl ws H) (hD : va_D A ws) (hS : va_S A s.heap H locs) (hA : ∀ q : Nat, s.heap.size ≤ q → A q) (hcells : cells + 1 ≤ R.cells) (hslots : slots + 1 ≤ R.slots) (hdg : decode cc pc = .ok (.newarray .long, 2))
    (kk : ∀ (q : Nat) (H1 : Heap), va_P D vwCl (ws ++ [(q, .inl (cq, 1, .inr (.inl (fun _ => 0))))]) H1 → va_D A (ws ++ [(q, .inl (cq, 1, .inr (.inl (fun _ => 0))))]) → va_S A s.heap H1 locs →
      W p l e R s m args below meth c H1 locs (cells + 1) (slots + 1) Q (F0 m (pc + 2) ls (.ref q :: rest))) : W p l e R s m args below meth c H locs cells slots Q (F0 m pc ls (.int (nI 1) :: rest)) := by
  refine va_newa (atype := .long) (ty := .long) (N' := 1) (a0 := (1, .inr (.inl (fun _ => 0)))) C.1 C.2.1 (C.2.2.2.2.2.2.use ac_long rfl) rfl hK hP hD hS hA (fun cA => ?_) (nI_pos (by omega)) (nI_clamp (by omega)) ?_ hcells hslots hdg ?_
  · simp [vp_cell]
    rfl
  · decide
  · intro q cA H1 hK1 hP1 hD1 hS1
    have h1 : s.vm.findClass ("[" ++ FieldType.long.toString) = some cq := (hK.2 1 _ rfl).2
    have h2 : s.vm.findClass ("[" ++ FieldType.long.toString) = some cA := (hK1.2 2 _ rfl).2
    rw [h1] at h2
    cases h2
    exact kk q H1 hP1 hD1 hS1
theorem SO_start {f : Nat → Nat} (hf : f = fun j => if j < 120 then j + 1 else 0) : SO (fun _ => 0) (fun _ => 0) f 0 := by
  subst hf
  refine ⟨by decide, fun i hi => ?_, fun i j hi hj h => ?_, fun i j _ h => absurd h (Nat.not_lt_zero _), fun e => ⟨show 0 < 65536 by decide, show 0 < 1000000 by decide⟩⟩
  · dsimp only; rw [if_pos hi]; omega
  · dsimp only at h; rw [if_pos hi, if_pos hj] at h; omega
theorem RR_start : RR (fun _ => 0) (fun _ => 0) (fun _ => 0) (fun _ => 0) (fun _ => []) := ⟨fun r _ => ⟨rfl, rfl, rfl, trivial, fun e he => absurd he List.not_mem_nil, List.nodup_nil⟩, fun _ _ _ _ _ e he => absurd he List.not_mem_nil⟩
theorem CR_start {f : Nat → Nat} (hf : f = fun j => if j < 120 then j + 1 else 0) : CR (fun _ => 0) (fun _ => 0) f 0 3 (fun _ => 0) (fun _ => 0) (fun _ => 0) (fun _ => 0) (fun _ => 0) 0 (fun _ => 0) (fun _ => 0) (fun _ => 0) (fun _ => 0) 0 0 30 80 (fun _ => 0) [] [] :=
  (CR.cleared (dbl := 0) (hlv := 0) (spl := 0) (mrg := 0) (lsp := 0) (dep := fun _ => 0) (E := []) (L := []) (dp := 0) (cp := 3) (lev := 0) (ptr := 0) (ldp := fun _ => 0) (SO_start hf) ⟨by decide, by decide⟩ ⟨by decide, by decide, by decide⟩ (fun _ _ => Nat.zero_le 8) (funext fun q => by unfold va_up; split <;> rfl) RR_start RR_start).1
theorem MR_start : MR (fun _ => 0) (fun _ => 0) 0 (fun _ => 0) (fun _ => 0) (fun _ => 0) (fun _ => 0) [] (fun _ => 0) [] [] :=
  ⟨rfl, rfl, rfl, by decide, fun _ _ => rfl, AL_nil, AL_nil, ⟨fun _ => ⟨fun h => absurd h List.not_mem_nil, fun ⟨_, h, _⟩ => absurd h (Nat.not_lt_zero _)⟩, fun _ _ h => absurd h (Nat.not_lt_zero _)⟩,
    ⟨List.nodup_nil, fun _ => ⟨fun h => absurd h List.not_mem_nil, fun ⟨_, h, _⟩ => absurd h (Nat.not_lt_zero _)⟩⟩, ⟨List.nodup_nil, fun _ => ⟨fun h => absurd h List.not_mem_nil, fun ⟨_, h, _⟩ => absurd h (Nat.not_lt_zero _)⟩⟩, List.Pairwise.nil, fun _ => ⟨show 0 < 65536 by decide, show 0 < 1000000 by decide, show 0 < 65536 by decide, show 0 < 65536 by decide, show 0 < 65536 by decide⟩⟩
theorem MC_start : MC 3 30 80 0 0 0 (fun _ => 0) := ⟨⟨by decide, fun _ _ => Nat.le_refl 0, fun _ _ _ _ _ => rfl⟩, ⟨by decide, by decide⟩, ⟨by decide, by decide⟩, ⟨by decide, by decide, by decide⟩⟩
