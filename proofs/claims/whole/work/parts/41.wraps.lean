
abbrev tq_ty2 (cy cq : ClassId) : List (ClassId × FieldType) := [(cy, .int), (cq, .long)]
abbrev tqIAE : String := "java/lang/IllegalArgumentException"
abbrev tqISE : String := "java/lang/IllegalStateException"
def tq_Pl (D : va_G) (cy cq : ClassId) (Ws : va_W) (sz : Nat) (av : List Value) : Array Value → State → Prop := va_Pc av (fun U => tq_T U ∧ va_Nc tqISE tqIAE U ∧ U.heap.size = sz ∧ va_P D vwCl Ws U.heap ∧ va_K D vwCl (tq_ty2 cy cq) U ∧ va_D (fun _ => True) Ws ∧ tq_E (va_A Ws sz) U U.heap)
theorem tq_Pl.blind {D : va_G} {cy cq : ClassId} {Ws : va_W} {sz : Nat} {av : List Value} : FrameBlind (tq_Pl D cy cq Ws sz av) := fun a U g mk h =>
  ⟨h.1, tq_calling h.2.1, va_Nc.moved (u := U) (U := U.calling g mk a) (Vm.Alike.refl U.vm) h.2.2.1, h.2.2.2.1, h.2.2.2.2.1, va_K.moved (u := U) (U := U.calling g mk a) (Vm.Alike.refl U.vm) h.2.2.2.2.2.1, h.2.2.2.2.2.2.1, h.2.2.2.2.2.2.2.warm (State.WarmedH.refl U)⟩
def tq_L {S : Type} (l : Launch) (y : MethodName) (b : ByteArray) (nL : Nat) (hh : List (Nat × Nat × Nat × Nat)) (fr lo : Nat) (D : va_G) (cy cq : ClassId) (Ws : va_W) (av : List Value) (post : Int32 → S → Prop) (W2 : S → va_W) : Prop :=
  ∀ sz : Nat, Met l y [.codeWith y b nL (some .int) hh] { frames := fr, cells := 1, slots := 6, locals := lo } (tq_Pl D cy cq Ws sz av) (va_Qi post (tq_B D (va_A Ws sz) W2) (va_A Ws sz)) 1 6 (va_A Ws sz)
section TL
variable {p : Program} {l : Launch} {e : Env} {R : Room} {s : State} {m : MethodId} {args : Array Value} {below : List Frame} {meth : Method} {c : Code} {H : Heap} {locs : List Loc} {cells slots : Nat} {Q : State → Prop}
variable {D : va_G} {cy cq : ClassId} {own : String} {cc : ByteArray} {nL : Nat} {rt : Option FieldType} {A : Nat → Prop} {ws Ws Wc wr : va_W} {pc : Nat} {ls : Array Slot} {rest : List Value} {px : String → Prop}
theorem tq_L.mk {S : Type} {y : MethodName} {b : ByteArray} {hh : List (Nat × Nat × Nat × Nat)} {fr lo : Nat} {av : List Value} {post : Int32 → S → Prop} {W2 : S → va_W} (hy : plainName y.cls = true) (he : (lg_sl av).length ≤ nL)
    (body : ∀ (p : Program) (e : Env) (s : State) (m : MethodId) (args : Array Value) (below : List Frame) (meth : Method) (c : Code) (A : Nat → Prop), tq_C p s m meth c y.cls b nL (some .int) → c.exceptionTable.toList = tableOf hh → va_Nc tqISE tqIAE s → va_P D vwCl Ws s.heap → va_K D vwCl (tq_ty2 cy cq) s →
      va_D A Ws → va_S A s.heap s.heap [] → (∀ q : Nat, s.heap.size ≤ q → A q) → tq_E A s s.heap →
      ∀ ls : Array Slot, lv_has ls nL (lv_args 0 av) → W p l e { frames := fr, cells := 1, slots := 6, locals := lo } s m args below meth c s.heap [] 0 0 (MQ below (va_Qi post (tq_B D A W2) A) args s 1 6 A) (F0 m 0 ls [])) :
    tq_L l y b nL hh fr lo D cy cq Ws av post W2 := by
  intro sz
  refine MetFree.of_bodyS (code := b) (maxLocals := nL) (ret := some .int) hy ?_ ?_
  · intro args s m h hn
    obtain ⟨m9, meth, c, hn9, h1, h2, h3, h4, -, h5, h6, -⟩ := Cond.codeWith_spec (atoms_spec (ws := [.codeWith y b nL (some .int) hh]) h _ List.mem_cons_self)
    cases hn.symm.trans hn9
    exact ⟨meth, c, h1, h2, h3, h4, h5, h6⟩
  · intro p e s m args below meth c s₁ B hml hv _
    obtain ⟨rfl, hT, hN, hsz, hP, hK, hD0, hE⟩ := hv
    subst hsz
    have hh0 : s₁.heap = s.heap := by rw [B.state]; rfl
    have htab := vx_table (x := y) B (atoms_spec (ws := [.codeWith y b nL (some .int) hh]) B.pre _ List.mem_cons_self)
    have K : W p l e { frames := fr, cells := 1, slots := 6, locals := lo } s m av.toArray below meth c s.heap [] 0 0 (MQ below (va_Qi post (tq_B D (va_A Ws s.heap.size) W2) (va_A Ws s.heap.size)) av.toArray s 1 6 (va_A Ws s.heap.size)) (entryFrame m av.toArray nL) := by
      rw [lg_entry_eq]
      exact body p e s m _ below meth c _ ⟨B.exec, B.bytes, hml, findClass_of_methodNamed B.named, B.returns, B.notSynchronized, hT⟩ htab hN hP hK hD0.self va_S.rf (fun q h => Or.inr h) hE _ (lv_entry av he)
    obtain ⟨t, a1, o, b1, b2, b3⟩ := K s₁ hh0 (Stand.of_body B)
    exact ⟨t, o, a1, b1, b2, b3⟩
/-! calls inside a try -/
theorem tq_tryI {S : Type} {post : Int32 → S → Prop} {W2 : S → va_W} {W3 : S → va_W} {px' : String → Prop} {a : Array Value} {st0 : List Value} (hr : vx_Run p l e R s m args below meth c H locs cells slots 1 6 (F0 m pc ls st0) rest (va_Qi post (tq_B D (va_A Wc H.size) W2) (va_A Wc H.size) a) (tq_XC px') (va_A Wc H.size))
    (hP : va_P D vwCl ws H) (hD : va_D A ws) (hS : va_S A s.heap H locs) (hA : ∀ q : Nat, s.heap.size ≤ q → A q) (isC isR isF : List Nat) (hC : isC.map (fun i => ws[i]?) = Wc.map some) (hR : isR.map (fun i => ws[i]?) = wr.map some) (hn : va_nd isR = true) (hdis : ∀ i ∈ isR, i ∉ isC) (hnF : va_nd isF = true) (hF : ∀ u, isF.map (fun i => (wr ++ W2 u)[i]?) = (W3 u).map some)
    (kx : ∀ (E : String) (ce : Cell) (q9 : Addr) (H1 : Heap) (locs1 : List Loc), px' E → va_P D vwCl ws H1 → va_S A s.heap H1 locs1 → H1[q9]? = some ce → ce.vm = .none → s.vm.findClass E = some ce.cls → vx_W p l e R s m args below meth c H1 locs1 (cells + 1) (slots + 6) Q (F0 m pc ls rest) q9)
    (kk : ∀ (r : Int32) (u : S) (H1 : Heap) (locs1 : List Loc), post r u → va_P D vwCl (W3 u) H1 → va_D A (W3 u) → va_S A s.heap H1 locs1 → W p l e R s m args below meth c H1 locs1 (cells + 1) (slots + 6) Q (F0 m (pc + 3) ls (.int r :: rest))) : W p l e R s m args below meth c H locs cells slots Q (F0 m pc ls st0) := by
  have hFc := va_free (wc := Wc) hD hS hA isC hC
  have hr2 : vx_Run p l e R s m args below meth c H locs cells slots 1 6 (F0 m pc ls st0) rest (va_Qi post (tq_B D (va_A Wc H.size) W2) (va_A Wc H.size) a) (vx_X (fun _ : Unit => True) (fun E _ _ => px' E) (fun _ => False)) (va_A Wc H.size) := fun T hT X => by
    rcases hr T hT X with h | ⟨q, st₀, t, T', L, E, ce, h0, X', hL, e1, e2, ⟨hp, hF9⟩, hce, hcv, hcl, st⟩
    · exact Or.inl h
    · exact Or.inr ⟨q, st₀, t, T', L, E, ce, h0, X', hL, e1, e2, ⟨(), trivial, hp, hF9⟩, hce, hcv, hcl, st⟩
  refine vx_calli hr2 hS (fun q _ h => hFc q h) hFc (fun q _ h => absurd h id) (fun E ce q9 u t H1 locs1 ht _ _ hpx hsz hk1 hS1 hce hcv hcl => ?_) (fun r u t H1 locs1 ht _ hp hB _ hk1 hS1 => ?_)
  · exact kx E ce q9 H1 locs1 hpx (hP.kept (fun k x hx => hk1 x.1 ((hP k x hx).lt) (fun z => z))) hS1 hce hcv hcl
  · obtain ⟨hP1, hD1⟩ := hB
    rw [ht] at hP1
    obtain ⟨hP2, hD2⟩ := va_join hP hD isC isR hC hR hn hdis hk1 hFc hP1 hD1
    exact kk r u H1 locs1 hp (hP2.sub isF (tq_pick (hF u))) (hD2.sub isF hnF (hF u)) hS1
theorem tq_tryF {post : Int32 → Prop} {px' : String → Prop} {a : Array Value} {st0 : List Value} (hr : vx_Run p l e R s m args below meth c H locs cells slots 1 6 (F0 m pc ls st0) rest (tq_Qf post a) (tq_XC px') (fun _ => False))
    (hP : va_P D vwCl ws H) (hS : va_S A s.heap H locs)
    (kx : ∀ (E : String) (ce : Cell) (q9 : Addr) (H1 : Heap) (locs1 : List Loc), px' E → va_P D vwCl ws H1 → va_S A s.heap H1 locs1 → H1[q9]? = some ce → ce.vm = .none → s.vm.findClass E = some ce.cls → vx_W p l e R s m args below meth c H1 locs1 (cells + 1) (slots + 6) Q (F0 m pc ls rest) q9)
    (kk : ∀ r : Int32, post r → W p l e R s m args below meth c H locs (cells + 1) (slots + 6) Q (F0 m (pc + 3) ls (.int r :: rest))) : W p l e R s m args below meth c H locs cells slots Q (F0 m pc ls st0) := by
  intro T hT X
  rcases hr T hT X with ⟨v, st₀, t, T', L, h0, X', hL, e1, e2, ⟨⟨r, hv, hp⟩, hh⟩, st⟩ | ⟨q, st₀, t, T', L, E, ce, h0, X', hL, e1, e2, ⟨hp, hF⟩, hce, hcv, hcl, st⟩
  · cases hv
    obtain rfl := tq_nil hL
    rw [List.append_nil] at X'
    obtain ⟨t2, a1, b1⟩ := kk r hp T' (by rw [e1, hh, h0]) X'
    exact ⟨t2, st t2 a1, b1⟩
  · obtain rfl := tq_nil hL
    rw [List.append_nil] at X'
    have hz : H.size ≤ T'.heap.size := by rw [e1, ← h0]; exact hF.1
    have hk : ∀ q9 : Nat, q9 < H.size → T'.heap[q9]? = H[q9]? := fun q9 h9 => by rw [e1, ← h0]; exact hF.2 q9 (by rw [h0]; exact h9) (fun z => z)
    obtain ⟨t2, a1, b1⟩ := kx E ce q T'.heap locs hp (hP.kept (fun k x hx => hk x.1 ((hP k x hx).lt))) ⟨Nat.le_trans hS.1 hz, fun q9 h1 h2 => (hk q9 (Nat.lt_of_lt_of_le h1 hS.1)).trans (hS.2.1 q9 h1 h2), hS.2.2⟩ (by rw [e1]; exact hce) hcv hcl T' rfl X'
    exact ⟨t2, st.trans a1, b1⟩
end TL
def cod (E : String) : Int32 := if E = tqISE then nI 2 else nI 1
theorem tq_in0 : vp_in (nI 0) 1 := by unfold vp_in; decide
theorem tq_out0 {f : Nat → Int64} {x : Int64} : vp_updL f (nI 0).toNatClampNeg x 0 = x := by
  unfold vp_updL
  rw [if_pos (by decide)]

def wO (cy : ClassId) (a : Nat → Nat) (key : Nat → Nat) (val : Nat → Nat) (ord : Nat → Nat) (tk : Nat) (cp : Nat) (efi : Nat → Nat) (ela : Nat → Nat) (eco : Nat → Nat) (ene : Nat → Nat) (ldp : Nat → Nat) (dp : Nat) (dbl : Int32) (hlv : Int32) (spl : Int32) (mrg : Int32) (lfi : Nat → Nat) (lla : Nat → Nat) (lco : Nat → Nat) (lne : Nat → Nat) (lev : Nat) (ptr : Nat) (llo : Nat) (lhi : Nat) (lsp : Int32) (cq : ClassId) (oo : Nat) (ov : Nat → Int64) : va_W := [
  (a 0, .inr (4, [.ref (a 1), .ref (a 2), .ref (a 3)])),
  (a 1, .inr (3, [.ref (a 4), .ref (a 5), .ref (a 6), .int (nI (tk)), .int (nI (cp))])),
  (a 2, .inr (0, [.ref (a 1), .ref (a 7), .ref (a 8), .int (nI (dp)), .int (dbl), .int (hlv), .int (spl), .int (mrg)])),
  (a 3, .inr (1, [.ref (a 1), .ref (a 9), .int (nI (lev)), .int (nI (ptr)), .int (nI (llo)), .int (nI (lhi)), .int (lsp)])),
  (a 4, .inl (cy, 121, .inl (fun j => nI (key j)))),
  (a 5, .inl (cy, 121, .inl (fun j => nI (val j)))),
  (a 6, .inl (cy, 120, .inl (fun j => nI (ord j)))),
  (a 7, .inr (2, [.ref (a 1), .ref (a 10), .ref (a 11), .ref (a 12), .ref (a 13)])),
  (a 8, .inl (cy, 256, .inl (fun j => nI (ldp j)))),
  (a 9, .inr (2, [.ref (a 1), .ref (a 14), .ref (a 15), .ref (a 16), .ref (a 17)])),
  (a 10, .inl (cy, 256, .inl (fun j => nI (efi j)))),
  (a 11, .inl (cy, 256, .inl (fun j => nI (ela j)))),
  (a 12, .inl (cy, 256, .inl (fun j => nI (eco j)))),
  (a 13, .inl (cy, 121, .inl (fun j => nI (ene j)))),
  (a 14, .inl (cy, 256, .inl (fun j => nI (lfi j)))),
  (a 15, .inl (cy, 256, .inl (fun j => nI (lla j)))),
  (a 16, .inl (cy, 256, .inl (fun j => nI (lco j)))),
  (a 17, .inl (cy, 121, .inl (fun j => nI (lne j)))),
  (oo, .inl (cq, 1, .inr (.inl ov)))]
theorem dL_put_0 : decode cL_put 0 = .ok (.aload_n 3, 1) := by decide +kernel
theorem dL_put_1 : decode cL_put 1 = .ok (.iconst 0, 1) := by decide +kernel
theorem dL_put_2 : decode cL_put 2 = .ok (.aload_n 0, 1) := by decide +kernel
theorem dL_put_3 : decode cL_put 3 = .ok (.iload_n 1, 1) := by decide +kernel
theorem dL_put_4 : decode cL_put 4 = .ok (.iload_n 2, 1) := by decide +kernel
theorem dL_put_5 : decode cL_put 5 = .ok (.invokevirtual 7, 3) := by decide +kernel
theorem dL_put_8 : decode cL_put 8 = .ok (.i2l, 1) := by decide +kernel
theorem dL_put_9 : decode cL_put 9 = .ok (.lastore, 1) := by decide +kernel
theorem dL_put_10 : decode cL_put 10 = .ok (.goto 11, 3) := by decide +kernel
theorem dL_put_13 : decode cL_put 13 = .ok (.astore 4, 2) := by decide +kernel
theorem dL_put_15 : decode cL_put 15 = .ok (.iconst 1, 1) := by decide +kernel
theorem dL_put_16 : decode cL_put 16 = .ok (.ireturn, 1) := by decide +kernel
theorem dL_put_17 : decode cL_put 17 = .ok (.astore 4, 2) := by decide +kernel
theorem dL_put_19 : decode cL_put 19 = .ok (.iconst 2, 1) := by decide +kernel
theorem dL_put_20 : decode cL_put 20 = .ok (.ireturn, 1) := by decide +kernel
theorem dL_put_21 : decode cL_put 21 = .ok (.iconst 0, 1) := by decide +kernel
theorem dL_put_22 : decode cL_put 22 = .ok (.ireturn, 1) := by decide +kernel
set_option maxHeartbeats 4000000 in
set_option maxRecDepth 100000 in
theorem c_L_put (l : Launch) (hl9 : l.stackTraces = false) (D : va_G) (cy cq : ClassId) (a : Nat → Nat) (key : Nat → Nat) (val : Nat → Nat) (ord : Nat → Nat) (tk : Nat) (cp : Nat) (efi : Nat → Nat) (ela : Nat → Nat) (eco : Nat → Nat) (ene : Nat → Nat) (ldp : Nat → Nat) (dp : Nat) (dbl : Int32) (hlv : Int32) (spl : Int32) (mrg : Int32) (lfi : Nat → Nat) (lla : Nat → Nat) (lco : Nat → Nat) (lne : Nat → Nat) (lev : Nat) (ptr : Nat) (llo : Nat) (lhi : Nat) (lsp : Int32) (oo : Nat) (ov : Nat → Int64) (p1 : Int32) (p2 : Int32) (dep : Nat → Nat) (E L : List Nat) (hCR : CR key val ord tk cp efi ela eco ene ldp dp lfi lla lco lne lev ptr llo lhi dep E L)  : tq_L (S := (Nat → Nat) × (Nat → Nat) × (Nat → Nat) × Nat × (Nat → Nat) × (Nat → Nat) × (Nat → Nat) × (Nat → Nat) × (Nat → Nat) × Nat × Int32 × Int32 × (Nat → Nat) × (Nat → Nat) × (Nat → Nat) × (Nat → Nat) × Nat × Nat × Int32 × (Nat → Int64)) l yL_put cL_put 5 [(0, 10, 13, 13), (0, 10, 17, 15)] 9 160 D cy cq (wO cy a key val ord tk cp efi ela eco ene ldp dp dbl hlv spl mrg lfi lla lco lne lev ptr llo lhi lsp cq oo ov) [.ref (a 0), .int p1, .int p2, .ref oo] (fun k u => (k = nI 0 ∧ ∃ r : Int32, u.2.2.2.2.2.2.2.2.2.2.2.2.2.2.2.2.2.2.2 0 = r.toInt64 ∧ (fun r u => ∃ k v, k < 65536 ∧ v < 1000000 ∧ p1 = nI k ∧ p2 = nI v ∧ ((∃ w, (k, w) ∈ (stl key val ord tk) ∧ r = nI w ∧ ∃ dep2 E2 L2, CR u.1 u.2.1 u.2.2.1 u.2.2.2.1 cp u.2.2.2.2.1 u.2.2.2.2.2.1 u.2.2.2.2.2.2.1 u.2.2.2.2.2.2.2.1 u.2.2.2.2.2.2.2.2.1 u.2.2.2.2.2.2.2.2.2.1 u.2.2.2.2.2.2.2.2.2.2.2.2.1 u.2.2.2.2.2.2.2.2.2.2.2.2.2.1 u.2.2.2.2.2.2.2.2.2.2.2.2.2.2.1 u.2.2.2.2.2.2.2.2.2.2.2.2.2.2.2.1 u.2.2.2.2.2.2.2.2.2.2.2.2.2.2.2.2.1 u.2.2.2.2.2.2.2.2.2.2.2.2.2.2.2.2.2.1 llo lhi dep2 E2 L2 ∧ mkA u.1 u.2.1 u.2.2.1 u.2.2.2.1 cp dep2 u.2.2.2.2.2.2.2.2.2.1 E2 u.2.2.2.2.2.2.2.2.2.2.1 hlv u.2.2.2.2.2.2.2.2.2.2.2.1 mrg L2 u.2.2.2.2.2.2.2.2.2.2.2.2.2.2.2.2.1 u.2.2.2.2.2.2.2.2.2.2.2.2.2.2.2.2.2.1 llo lhi u.2.2.2.2.2.2.2.2.2.2.2.2.2.2.2.2.2.2 = arep (mkA key val ord tk cp dep dp E dbl hlv spl mrg L lev ptr llo lhi lsp) k v) ∨ ((∀ w, (k, w) ∉ (stl key val ord tk)) ∧ tk < 120 ∧ r = -1 ∧ ∃ dep2 E2 L2, CR u.1 u.2.1 u.2.2.1 u.2.2.2.1 cp u.2.2.2.2.1 u.2.2.2.2.2.1 u.2.2.2.2.2.2.1 u.2.2.2.2.2.2.2.1 u.2.2.2.2.2.2.2.2.1 u.2.2.2.2.2.2.2.2.2.1 u.2.2.2.2.2.2.2.2.2.2.2.2.1 u.2.2.2.2.2.2.2.2.2.2.2.2.2.1 u.2.2.2.2.2.2.2.2.2.2.2.2.2.2.1 u.2.2.2.2.2.2.2.2.2.2.2.2.2.2.2.1 u.2.2.2.2.2.2.2.2.2.2.2.2.2.2.2.2.1 u.2.2.2.2.2.2.2.2.2.2.2.2.2.2.2.2.2.1 llo lhi dep2 E2 L2 ∧ mkA u.1 u.2.1 u.2.2.1 u.2.2.2.1 cp dep2 u.2.2.2.2.2.2.2.2.2.1 E2 u.2.2.2.2.2.2.2.2.2.2.1 hlv u.2.2.2.2.2.2.2.2.2.2.2.1 mrg L2 u.2.2.2.2.2.2.2.2.2.2.2.2.2.2.2.2.1 u.2.2.2.2.2.2.2.2.2.2.2.2.2.2.2.2.2.1 llo lhi u.2.2.2.2.2.2.2.2.2.2.2.2.2.2.2.2.2.2 = aadd (mkA key val ord tk cp dep dp E dbl hlv spl mrg L lev ptr llo lhi lsp) k v))) r (u.1, u.2.1, u.2.2.1, u.2.2.2.1, u.2.2.2.2.1, u.2.2.2.2.2.1, u.2.2.2.2.2.2.1, u.2.2.2.2.2.2.2.1, u.2.2.2.2.2.2.2.2.1, u.2.2.2.2.2.2.2.2.2.1, u.2.2.2.2.2.2.2.2.2.2.1, u.2.2.2.2.2.2.2.2.2.2.2.1, u.2.2.2.2.2.2.2.2.2.2.2.2.1, u.2.2.2.2.2.2.2.2.2.2.2.2.2.1, u.2.2.2.2.2.2.2.2.2.2.2.2.2.2.1, u.2.2.2.2.2.2.2.2.2.2.2.2.2.2.2.1, u.2.2.2.2.2.2.2.2.2.2.2.2.2.2.2.2.1, u.2.2.2.2.2.2.2.2.2.2.2.2.2.2.2.2.2.1, u.2.2.2.2.2.2.2.2.2.2.2.2.2.2.2.2.2.2.1)) ∨ (∃ E9, (fun E9 => (E9 = "java/lang/IllegalArgumentException" ∧ ¬ (isKey p1 ∧ isVal p2)) ∨ (E9 = "java/lang/IllegalStateException" ∧ ∃ k v : Nat, k < 65536 ∧ v < 1000000 ∧ p1 = nI k ∧ p2 = nI v ∧ (∀ w, (k, w) ∉ (stl key val ord tk)) ∧ tk = 120)) E9 ∧ k = cod E9 ∧ u = (key, val, ord, tk, efi, ela, eco, ene, ldp, dp, dbl, spl, lfi, lla, lco, lne, lev, ptr, lsp, ov))) (fun u => (wO cy a u.1 u.2.1 u.2.2.1 u.2.2.2.1 cp u.2.2.2.2.1 u.2.2.2.2.2.1 u.2.2.2.2.2.2.1 u.2.2.2.2.2.2.2.1 u.2.2.2.2.2.2.2.2.1 u.2.2.2.2.2.2.2.2.2.1 u.2.2.2.2.2.2.2.2.2.2.1 hlv u.2.2.2.2.2.2.2.2.2.2.2.1 mrg u.2.2.2.2.2.2.2.2.2.2.2.2.1 u.2.2.2.2.2.2.2.2.2.2.2.2.2.1 u.2.2.2.2.2.2.2.2.2.2.2.2.2.2.1 u.2.2.2.2.2.2.2.2.2.2.2.2.2.2.2.1 u.2.2.2.2.2.2.2.2.2.2.2.2.2.2.2.2.1 u.2.2.2.2.2.2.2.2.2.2.2.2.2.2.2.2.2.1 llo lhi u.2.2.2.2.2.2.2.2.2.2.2.2.2.2.2.2.2.2.1 cq oo u.2.2.2.2.2.2.2.2.2.2.2.2.2.2.2.2.2.2.2)) := by
  refine tq_L.mk (by decide) (Nat.le_of_ble_eq_true rfl) ?_
  intro p e s m args below meth c A C hX hN hP hK hD hS hA hE ls hl
  obtain ⟨hx, hb, hml, hown, hrt, hlk, hT⟩ := id C
  have hl : lv_has ls 5 [(0, .ref (a 0)), (1, .int p1), (2, .int p2), (3, .ref oo)] := hl
  have hK1 : va_K D vwCl (tq_ty cy) s := hK.sub [0] rfl
  refine lv_aload_n hx hb dL_put_0 rfl (lv_at hl 3 rfl) ?_
  refine lv_iconst (v := nI 0) hx hb dL_put_1 (by decide) ?_
  refine lv_aload_n hx hb dL_put_2 rfl (lv_at hl 0 rfl) ?_
  refine lv_iload_n hx hb dL_put_3 rfl (lv_at hl 1 rfl) ?_
  refine lv_iload_n hx hb dL_put_4 rfl (lv_at hl 2 rfl) ?_
  refine tq_tryI (W3 := fun u => (wO cy a u.1 u.2.1 u.2.2.1 u.2.2.2.1 cp u.2.2.2.2.1 u.2.2.2.2.2.1 u.2.2.2.2.2.2.1 u.2.2.2.2.2.2.2.1 u.2.2.2.2.2.2.2.2.1 u.2.2.2.2.2.2.2.2.2.1 u.2.2.2.2.2.2.2.2.2.2.1 hlv u.2.2.2.2.2.2.2.2.2.2.2.1 mrg u.2.2.2.2.2.2.2.2.2.2.2.2.1 u.2.2.2.2.2.2.2.2.2.2.2.2.2.1 u.2.2.2.2.2.2.2.2.2.2.2.2.2.2.1 u.2.2.2.2.2.2.2.2.2.2.2.2.2.2.2.1 u.2.2.2.2.2.2.2.2.2.2.2.2.2.2.2.2.1 u.2.2.2.2.2.2.2.2.2.2.2.2.2.2.2.2.2.1 llo lhi u.2.2.2.2.2.2.2.2.2.2.2.2.2.2.2.2.2.2 cq oo ov)) (wr := [(oo, .inl (cq, 1, .inr (.inl ov)))]) (vx_runV C.fix (As := [.int p1, .int p2]) (rest := [.int (nI 0), .ref oo]) (c_X4_put l hl9 D cy a key val ord tk cp efi ela eco ene ldp dp dbl hlv spl mrg lfi lla lco lne lev ptr llo lhi lsp p1 p2 dep E L hCR s.heap.size) (tq_cV (n := 2) C ml_L_7 im_X4_put se_X4_put ini_X4 cd_X4_put ⟨by decide, by decide, by decide +kernel⟩ ⟨Nat.le_of_ble_eq_true rfl, Nat.le_of_ble_eq_true rfl⟩) ⟨tq_Px.blind, va_recv hK hP (ci := 4) (q0 := 0) rfl rfl, tq_preX C hK1 hP hD hS hA hE [0, 1, 2, 3, 4, 5, 6, 7, 8, 9, 10, 11, 12, 13, 14, 15, 16, 17] (by decide) rfl⟩ rfl rfl hl.1 rfl (lv_room (Nat.le_of_ble_eq_true rfl)) dL_put_5 ⟨Nat.le_of_ble_eq_true rfl, Nat.le_of_ble_eq_true rfl⟩) hP hD hS hA [0, 1, 2, 3, 4, 5, 6, 7, 8, 9, 10, 11, 12, 13, 14, 15, 16, 17] [18] [1, 2, 3, 4, 5, 6, 7, 8, 9, 10, 11, 12, 13, 14, 15, 16, 17, 18, 0] rfl rfl (by decide) (by decide) (by decide) (fun _ => rfl) (fun E9 ce q9 H locs hpx hP hS hce hcv hcl => ?_) (fun r u H locs hr hP hD hS => ?_)
  · rcases id hpx with ⟨rfl, _⟩ | ⟨rfl, _⟩
    · refine vx_catch (own := "TwinHashTablesLaw") (name := "java/lang/IllegalArgumentException") (E := "java/lang/IllegalArgumentException") hown [] ⟨0, 10, 13, 13⟩ [⟨0, 10, 17, 15⟩] hX (fun z hz => nomatch hz) rfl (by decide) (hT.use clk_L_13 rfl) (hT.use cst_IllegalArgumentException_IllegalArgumentException rfl) hce hcv hcl ?_
      refine lv_astore (lv' := [(4, .ref q9), (0, .ref (a 0)), (1, .int p1), (2, .int p2), (3, .ref oo)]) hx hb dL_put_13 hl (by decide) rfl (fun ls hl => ?_)
      refine lv_iconst (v := nI 1) hx hb dL_put_15 (by decide) ?_
      exact tq_iret (v := nI 1) C rfl (key, val, ord, tk, efi, ela, eco, ene, ldp, dp, dbl, spl, lfi, lla, lco, lne, lev, ptr, lsp, ov) hP hD hS (Or.inr ⟨_, hpx, rfl, rfl⟩) (Nat.le_of_ble_eq_true rfl) (Nat.le_of_ble_eq_true rfl) dL_put_16
    · refine vx_catch (own := "TwinHashTablesLaw") (name := "java/lang/IllegalStateException") (E := "java/lang/IllegalStateException") hown [⟨0, 10, 13, 13⟩] ⟨0, 10, 17, 15⟩ [] hX (fun z hz => by
        rcases List.mem_singleton.mp hz with rfl
        exact Or.inr ⟨by decide, _, hT.use clk_L_13 rfl, hN⟩) rfl (by decide) (hT.use clk_L_15 rfl) (hT.use cst_IllegalStateException_IllegalStateException rfl) hce hcv hcl ?_
      refine lv_astore (lv' := [(4, .ref q9), (0, .ref (a 0)), (1, .int p1), (2, .int p2), (3, .ref oo)]) hx hb dL_put_17 hl (by decide) rfl (fun ls hl => ?_)
      refine lv_iconst (v := nI 2) hx hb dL_put_19 (by decide) ?_
      exact tq_iret (v := nI 2) C rfl (key, val, ord, tk, efi, ela, eco, ene, ldp, dp, dbl, spl, lfi, lla, lco, lne, lev, ptr, lsp, ov) hP hD hS (Or.inr ⟨_, hpx, rfl, rfl⟩) (Nat.le_of_ble_eq_true rfl) (Nat.le_of_ble_eq_true rfl) dL_put_20
  · refine lv_i2l (v := r.toInt64) hx hb dL_put_8 rfl ?_
    have hP : va_P D vwCl (wO cy a u.1 u.2.1 u.2.2.1 u.2.2.2.1 cp u.2.2.2.2.1 u.2.2.2.2.2.1 u.2.2.2.2.2.2.1 u.2.2.2.2.2.2.2.1 u.2.2.2.2.2.2.2.2.1 u.2.2.2.2.2.2.2.2.2.1 u.2.2.2.2.2.2.2.2.2.2.1 hlv u.2.2.2.2.2.2.2.2.2.2.2.1 mrg u.2.2.2.2.2.2.2.2.2.2.2.2.1 u.2.2.2.2.2.2.2.2.2.2.2.2.2.1 u.2.2.2.2.2.2.2.2.2.2.2.2.2.2.1 u.2.2.2.2.2.2.2.2.2.2.2.2.2.2.2.1 u.2.2.2.2.2.2.2.2.2.2.2.2.2.2.2.2.1 u.2.2.2.2.2.2.2.2.2.2.2.2.2.2.2.2.2.1 llo lhi u.2.2.2.2.2.2.2.2.2.2.2.2.2.2.2.2.2.2 cq oo ov) H := hP
    have hD : va_D A (wO cy a u.1 u.2.1 u.2.2.1 u.2.2.2.1 cp u.2.2.2.2.1 u.2.2.2.2.2.1 u.2.2.2.2.2.2.1 u.2.2.2.2.2.2.2.1 u.2.2.2.2.2.2.2.2.1 u.2.2.2.2.2.2.2.2.2.1 u.2.2.2.2.2.2.2.2.2.2.1 hlv u.2.2.2.2.2.2.2.2.2.2.2.1 mrg u.2.2.2.2.2.2.2.2.2.2.2.2.1 u.2.2.2.2.2.2.2.2.2.2.2.2.2.1 u.2.2.2.2.2.2.2.2.2.2.2.2.2.2.1 u.2.2.2.2.2.2.2.2.2.2.2.2.2.2.2.1 u.2.2.2.2.2.2.2.2.2.2.2.2.2.2.2.2.1 u.2.2.2.2.2.2.2.2.2.2.2.2.2.2.2.2.2.1 llo lhi u.2.2.2.2.2.2.2.2.2.2.2.2.2.2.2.2.2.2 cq oo ov) := hD
    refine va_last C.1 C.2.1 hK hP hD hS 18 1 rfl rfl tq_in0 dL_put_9 (fun H locs hP hD hS => ?_)
    have hP : va_P D vwCl (wO cy a u.1 u.2.1 u.2.2.1 u.2.2.2.1 cp u.2.2.2.2.1 u.2.2.2.2.2.1 u.2.2.2.2.2.2.1 u.2.2.2.2.2.2.2.1 u.2.2.2.2.2.2.2.2.1 u.2.2.2.2.2.2.2.2.2.1 u.2.2.2.2.2.2.2.2.2.2.1 hlv u.2.2.2.2.2.2.2.2.2.2.2.1 mrg u.2.2.2.2.2.2.2.2.2.2.2.2.1 u.2.2.2.2.2.2.2.2.2.2.2.2.2.1 u.2.2.2.2.2.2.2.2.2.2.2.2.2.2.1 u.2.2.2.2.2.2.2.2.2.2.2.2.2.2.2.1 u.2.2.2.2.2.2.2.2.2.2.2.2.2.2.2.2.1 u.2.2.2.2.2.2.2.2.2.2.2.2.2.2.2.2.2.1 llo lhi u.2.2.2.2.2.2.2.2.2.2.2.2.2.2.2.2.2.2 cq oo (vp_updL ov (nI 0).toNatClampNeg r.toInt64)) H := hP
    have hD : va_D A (wO cy a u.1 u.2.1 u.2.2.1 u.2.2.2.1 cp u.2.2.2.2.1 u.2.2.2.2.2.1 u.2.2.2.2.2.2.1 u.2.2.2.2.2.2.2.1 u.2.2.2.2.2.2.2.2.1 u.2.2.2.2.2.2.2.2.2.1 u.2.2.2.2.2.2.2.2.2.2.1 hlv u.2.2.2.2.2.2.2.2.2.2.2.1 mrg u.2.2.2.2.2.2.2.2.2.2.2.2.1 u.2.2.2.2.2.2.2.2.2.2.2.2.2.1 u.2.2.2.2.2.2.2.2.2.2.2.2.2.2.1 u.2.2.2.2.2.2.2.2.2.2.2.2.2.2.2.1 u.2.2.2.2.2.2.2.2.2.2.2.2.2.2.2.2.1 u.2.2.2.2.2.2.2.2.2.2.2.2.2.2.2.2.2.1 llo lhi u.2.2.2.2.2.2.2.2.2.2.2.2.2.2.2.2.2.2 cq oo (vp_updL ov (nI 0).toNatClampNeg r.toInt64)) := hD
    refine lv_goto (tgt := 21) hx hb dL_put_10 (by decide) ?_
    refine lv_iconst (v := nI 0) hx hb dL_put_21 (by decide) ?_
    exact tq_iret (v := nI 0) C rfl (u.1, u.2.1, u.2.2.1, u.2.2.2.1, u.2.2.2.2.1, u.2.2.2.2.2.1, u.2.2.2.2.2.2.1, u.2.2.2.2.2.2.2.1, u.2.2.2.2.2.2.2.2.1, u.2.2.2.2.2.2.2.2.2.1, u.2.2.2.2.2.2.2.2.2.2.1, u.2.2.2.2.2.2.2.2.2.2.2.1, u.2.2.2.2.2.2.2.2.2.2.2.2.1, u.2.2.2.2.2.2.2.2.2.2.2.2.2.1, u.2.2.2.2.2.2.2.2.2.2.2.2.2.2.1, u.2.2.2.2.2.2.2.2.2.2.2.2.2.2.2.1, u.2.2.2.2.2.2.2.2.2.2.2.2.2.2.2.2.1, u.2.2.2.2.2.2.2.2.2.2.2.2.2.2.2.2.2.1, u.2.2.2.2.2.2.2.2.2.2.2.2.2.2.2.2.2.2, vp_updL ov (nI 0).toNatClampNeg r.toInt64) hP hD hS (Or.inl ⟨rfl, r, tq_out0 (f := ov), hr⟩) (Nat.le_of_ble_eq_true rfl) (Nat.le_of_ble_eq_true rfl) dL_put_22
theorem dL_remove_0 : decode cL_remove 0 = .ok (.aload_n 2, 1) := by decide +kernel
theorem dL_remove_1 : decode cL_remove 1 = .ok (.iconst 0, 1) := by decide +kernel
theorem dL_remove_2 : decode cL_remove 2 = .ok (.aload_n 0, 1) := by decide +kernel
theorem dL_remove_3 : decode cL_remove 3 = .ok (.iload_n 1, 1) := by decide +kernel
theorem dL_remove_4 : decode cL_remove 4 = .ok (.invokevirtual 17, 3) := by decide +kernel
theorem dL_remove_7 : decode cL_remove 7 = .ok (.i2l, 1) := by decide +kernel
theorem dL_remove_8 : decode cL_remove 8 = .ok (.lastore, 1) := by decide +kernel
theorem dL_remove_9 : decode cL_remove 9 = .ok (.goto 6, 3) := by decide +kernel
theorem dL_remove_12 : decode cL_remove 12 = .ok (.astore_n 3, 1) := by decide +kernel
theorem dL_remove_13 : decode cL_remove 13 = .ok (.iconst 1, 1) := by decide +kernel
theorem dL_remove_14 : decode cL_remove 14 = .ok (.ireturn, 1) := by decide +kernel
theorem dL_remove_15 : decode cL_remove 15 = .ok (.iconst 0, 1) := by decide +kernel
theorem dL_remove_16 : decode cL_remove 16 = .ok (.ireturn, 1) := by decide +kernel
set_option maxHeartbeats 4000000 in
set_option maxRecDepth 100000 in
theorem c_L_remove (l : Launch) (hl9 : l.stackTraces = false) (D : va_G) (cy cq : ClassId) (a : Nat → Nat) (key : Nat → Nat) (val : Nat → Nat) (ord : Nat → Nat) (tk : Nat) (cp : Nat) (efi : Nat → Nat) (ela : Nat → Nat) (eco : Nat → Nat) (ene : Nat → Nat) (ldp : Nat → Nat) (dp : Nat) (dbl : Int32) (hlv : Int32) (spl : Int32) (mrg : Int32) (lfi : Nat → Nat) (lla : Nat → Nat) (lco : Nat → Nat) (lne : Nat → Nat) (lev : Nat) (ptr : Nat) (llo : Nat) (lhi : Nat) (lsp : Int32) (oo : Nat) (ov : Nat → Int64) (p1 : Int32) (dep : Nat → Nat) (E L : List Nat) (hCR : CR key val ord tk cp efi ela eco ene ldp dp lfi lla lco lne lev ptr llo lhi dep E L)  : tq_L (S := (Nat → Nat) × Nat × (Nat → Nat) × (Nat → Nat) × (Nat → Nat) × (Nat → Nat) × (Nat → Nat) × Nat × Int32 × Int32 × (Nat → Nat) × (Nat → Nat) × (Nat → Nat) × (Nat → Nat) × Nat × Nat × Int32 × (Nat → Int64)) l yL_remove cL_remove 4 [(0, 9, 12, 13)] 9 160 D cy cq (wO cy a key val ord tk cp efi ela eco ene ldp dp dbl hlv spl mrg lfi lla lco lne lev ptr llo lhi lsp cq oo ov) [.ref (a 0), .int p1, .ref oo] (fun k u => (k = nI 0 ∧ ∃ r : Int32, u.2.2.2.2.2.2.2.2.2.2.2.2.2.2.2.2.2 0 = r.toInt64 ∧ (fun r u => ∃ k, k < 65536 ∧ p1 = nI k ∧ (((∀ w, (k, w) ∉ (stl key val ord tk)) ∧ r = -1 ∧ ∃ dep2 E2 L2, CR key val u.1 u.2.1 cp u.2.2.1 u.2.2.2.1 u.2.2.2.2.1 u.2.2.2.2.2.1 u.2.2.2.2.2.2.1 u.2.2.2.2.2.2.2.1 u.2.2.2.2.2.2.2.2.2.2.1 u.2.2.2.2.2.2.2.2.2.2.2.1 u.2.2.2.2.2.2.2.2.2.2.2.2.1 u.2.2.2.2.2.2.2.2.2.2.2.2.2.1 u.2.2.2.2.2.2.2.2.2.2.2.2.2.2.1 u.2.2.2.2.2.2.2.2.2.2.2.2.2.2.2.1 llo lhi dep2 E2 L2 ∧ mkA key val u.1 u.2.1 cp dep2 u.2.2.2.2.2.2.2.1 E2 dbl u.2.2.2.2.2.2.2.2.1 spl u.2.2.2.2.2.2.2.2.2.1 L2 u.2.2.2.2.2.2.2.2.2.2.2.2.2.2.1 u.2.2.2.2.2.2.2.2.2.2.2.2.2.2.2.1 llo lhi u.2.2.2.2.2.2.2.2.2.2.2.2.2.2.2.2 = (mkA key val ord tk cp dep dp E dbl hlv spl mrg L lev ptr llo lhi lsp)) ∨ (∃ w, (k, w) ∈ (stl key val ord tk) ∧ r = nI w ∧ ∃ dep2 E2 L2, CR key val u.1 u.2.1 cp u.2.2.1 u.2.2.2.1 u.2.2.2.2.1 u.2.2.2.2.2.1 u.2.2.2.2.2.2.1 u.2.2.2.2.2.2.2.1 u.2.2.2.2.2.2.2.2.2.2.1 u.2.2.2.2.2.2.2.2.2.2.2.1 u.2.2.2.2.2.2.2.2.2.2.2.2.1 u.2.2.2.2.2.2.2.2.2.2.2.2.2.1 u.2.2.2.2.2.2.2.2.2.2.2.2.2.2.1 u.2.2.2.2.2.2.2.2.2.2.2.2.2.2.2.1 llo lhi dep2 E2 L2 ∧ mkA key val u.1 u.2.1 cp dep2 u.2.2.2.2.2.2.2.1 E2 dbl u.2.2.2.2.2.2.2.2.1 spl u.2.2.2.2.2.2.2.2.2.1 L2 u.2.2.2.2.2.2.2.2.2.2.2.2.2.2.1 u.2.2.2.2.2.2.2.2.2.2.2.2.2.2.2.1 llo lhi u.2.2.2.2.2.2.2.2.2.2.2.2.2.2.2.2 = adel (mkA key val ord tk cp dep dp E dbl hlv spl mrg L lev ptr llo lhi lsp) k))) r (u.1, u.2.1, u.2.2.1, u.2.2.2.1, u.2.2.2.2.1, u.2.2.2.2.2.1, u.2.2.2.2.2.2.1, u.2.2.2.2.2.2.2.1, u.2.2.2.2.2.2.2.2.1, u.2.2.2.2.2.2.2.2.2.1, u.2.2.2.2.2.2.2.2.2.2.1, u.2.2.2.2.2.2.2.2.2.2.2.1, u.2.2.2.2.2.2.2.2.2.2.2.2.1, u.2.2.2.2.2.2.2.2.2.2.2.2.2.1, u.2.2.2.2.2.2.2.2.2.2.2.2.2.2.1, u.2.2.2.2.2.2.2.2.2.2.2.2.2.2.2.1, u.2.2.2.2.2.2.2.2.2.2.2.2.2.2.2.2.1)) ∨ (∃ E9, (fun E9 => E9 = "java/lang/IllegalArgumentException" ∧ ¬ isKey p1) E9 ∧ k = cod E9 ∧ u = (ord, tk, efi, ela, eco, ene, ldp, dp, hlv, mrg, lfi, lla, lco, lne, lev, ptr, lsp, ov))) (fun u => (wO cy a key val u.1 u.2.1 cp u.2.2.1 u.2.2.2.1 u.2.2.2.2.1 u.2.2.2.2.2.1 u.2.2.2.2.2.2.1 u.2.2.2.2.2.2.2.1 dbl u.2.2.2.2.2.2.2.2.1 spl u.2.2.2.2.2.2.2.2.2.1 u.2.2.2.2.2.2.2.2.2.2.1 u.2.2.2.2.2.2.2.2.2.2.2.1 u.2.2.2.2.2.2.2.2.2.2.2.2.1 u.2.2.2.2.2.2.2.2.2.2.2.2.2.1 u.2.2.2.2.2.2.2.2.2.2.2.2.2.2.1 u.2.2.2.2.2.2.2.2.2.2.2.2.2.2.2.1 llo lhi u.2.2.2.2.2.2.2.2.2.2.2.2.2.2.2.2.1 cq oo u.2.2.2.2.2.2.2.2.2.2.2.2.2.2.2.2.2)) := by
  refine tq_L.mk (by decide) (Nat.le_of_ble_eq_true rfl) ?_
  intro p e s m args below meth c A C hX hN hP hK hD hS hA hE ls hl
  obtain ⟨hx, hb, hml, hown, hrt, hlk, hT⟩ := id C
  have hl : lv_has ls 4 [(0, .ref (a 0)), (1, .int p1), (2, .ref oo)] := hl
  have hK1 : va_K D vwCl (tq_ty cy) s := hK.sub [0] rfl
  refine lv_aload_n hx hb dL_remove_0 rfl (lv_at hl 2 rfl) ?_
  refine lv_iconst (v := nI 0) hx hb dL_remove_1 (by decide) ?_
  refine lv_aload_n hx hb dL_remove_2 rfl (lv_at hl 0 rfl) ?_
  refine lv_iload_n hx hb dL_remove_3 rfl (lv_at hl 1 rfl) ?_
  refine tq_tryI (W3 := fun u => (wO cy a key val u.1 u.2.1 cp u.2.2.1 u.2.2.2.1 u.2.2.2.2.1 u.2.2.2.2.2.1 u.2.2.2.2.2.2.1 u.2.2.2.2.2.2.2.1 dbl u.2.2.2.2.2.2.2.2.1 spl u.2.2.2.2.2.2.2.2.2.1 u.2.2.2.2.2.2.2.2.2.2.1 u.2.2.2.2.2.2.2.2.2.2.2.1 u.2.2.2.2.2.2.2.2.2.2.2.2.1 u.2.2.2.2.2.2.2.2.2.2.2.2.2.1 u.2.2.2.2.2.2.2.2.2.2.2.2.2.2.1 u.2.2.2.2.2.2.2.2.2.2.2.2.2.2.2.1 llo lhi u.2.2.2.2.2.2.2.2.2.2.2.2.2.2.2.2 cq oo ov)) (wr := [(oo, .inl (cq, 1, .inr (.inl ov)))]) (vx_runV C.fix (As := [.int p1]) (rest := [.int (nI 0), .ref oo]) (c_X4_remove l hl9 D cy a key val ord tk cp efi ela eco ene ldp dp dbl hlv spl mrg lfi lla lco lne lev ptr llo lhi lsp p1 dep E L hCR s.heap.size) (tq_cV (n := 1) C ml_L_17 im_X4_remove se_X4_remove ini_X4 cd_X4_remove ⟨by decide, by decide, by decide +kernel⟩ ⟨Nat.le_of_ble_eq_true rfl, Nat.le_of_ble_eq_true rfl⟩) ⟨tq_Px.blind, va_recv hK hP (ci := 4) (q0 := 0) rfl rfl, tq_preX C hK1 hP hD hS hA hE [0, 1, 2, 3, 4, 5, 6, 7, 8, 9, 10, 11, 12, 13, 14, 15, 16, 17] (by decide) rfl⟩ rfl rfl hl.1 rfl (lv_room (Nat.le_of_ble_eq_true rfl)) dL_remove_4 ⟨Nat.le_of_ble_eq_true rfl, Nat.le_of_ble_eq_true rfl⟩) hP hD hS hA [0, 1, 2, 3, 4, 5, 6, 7, 8, 9, 10, 11, 12, 13, 14, 15, 16, 17] [18] [1, 2, 3, 4, 5, 6, 7, 8, 9, 10, 11, 12, 13, 14, 15, 16, 17, 18, 0] rfl rfl (by decide) (by decide) (by decide) (fun _ => rfl) (fun E9 ce q9 H locs hpx hP hS hce hcv hcl => ?_) (fun r u H locs hr hP hD hS => ?_)
  · obtain ⟨rfl, _⟩ := id hpx
    refine vx_catch (own := "TwinHashTablesLaw") (name := "java/lang/IllegalArgumentException") (E := "java/lang/IllegalArgumentException") hown [] ⟨0, 9, 12, 13⟩ [] hX (fun z hz => nomatch hz) rfl (by decide) (hT.use clk_L_13 rfl) (hT.use cst_IllegalArgumentException_IllegalArgumentException rfl) hce hcv hcl ?_
    refine lv_astore_n (lv' := [(3, .ref q9), (0, .ref (a 0)), (1, .int p1), (2, .ref oo)]) hx hb dL_remove_12 rfl hl (by decide) rfl (fun ls hl => ?_)
    refine lv_iconst (v := nI 1) hx hb dL_remove_13 (by decide) ?_
    exact tq_iret (v := nI 1) C rfl (ord, tk, efi, ela, eco, ene, ldp, dp, hlv, mrg, lfi, lla, lco, lne, lev, ptr, lsp, ov) hP hD hS (Or.inr ⟨_, hpx, rfl, rfl⟩) (Nat.le_of_ble_eq_true rfl) (Nat.le_of_ble_eq_true rfl) dL_remove_14
  · refine lv_i2l (v := r.toInt64) hx hb dL_remove_7 rfl ?_
    have hP : va_P D vwCl (wO cy a key val u.1 u.2.1 cp u.2.2.1 u.2.2.2.1 u.2.2.2.2.1 u.2.2.2.2.2.1 u.2.2.2.2.2.2.1 u.2.2.2.2.2.2.2.1 dbl u.2.2.2.2.2.2.2.2.1 spl u.2.2.2.2.2.2.2.2.2.1 u.2.2.2.2.2.2.2.2.2.2.1 u.2.2.2.2.2.2.2.2.2.2.2.1 u.2.2.2.2.2.2.2.2.2.2.2.2.1 u.2.2.2.2.2.2.2.2.2.2.2.2.2.1 u.2.2.2.2.2.2.2.2.2.2.2.2.2.2.1 u.2.2.2.2.2.2.2.2.2.2.2.2.2.2.2.1 llo lhi u.2.2.2.2.2.2.2.2.2.2.2.2.2.2.2.2 cq oo ov) H := hP
    have hD : va_D A (wO cy a key val u.1 u.2.1 cp u.2.2.1 u.2.2.2.1 u.2.2.2.2.1 u.2.2.2.2.2.1 u.2.2.2.2.2.2.1 u.2.2.2.2.2.2.2.1 dbl u.2.2.2.2.2.2.2.2.1 spl u.2.2.2.2.2.2.2.2.2.1 u.2.2.2.2.2.2.2.2.2.2.1 u.2.2.2.2.2.2.2.2.2.2.2.1 u.2.2.2.2.2.2.2.2.2.2.2.2.1 u.2.2.2.2.2.2.2.2.2.2.2.2.2.1 u.2.2.2.2.2.2.2.2.2.2.2.2.2.2.1 u.2.2.2.2.2.2.2.2.2.2.2.2.2.2.2.1 llo lhi u.2.2.2.2.2.2.2.2.2.2.2.2.2.2.2.2 cq oo ov) := hD
    refine va_last C.1 C.2.1 hK hP hD hS 18 1 rfl rfl tq_in0 dL_remove_8 (fun H locs hP hD hS => ?_)
    have hP : va_P D vwCl (wO cy a key val u.1 u.2.1 cp u.2.2.1 u.2.2.2.1 u.2.2.2.2.1 u.2.2.2.2.2.1 u.2.2.2.2.2.2.1 u.2.2.2.2.2.2.2.1 dbl u.2.2.2.2.2.2.2.2.1 spl u.2.2.2.2.2.2.2.2.2.1 u.2.2.2.2.2.2.2.2.2.2.1 u.2.2.2.2.2.2.2.2.2.2.2.1 u.2.2.2.2.2.2.2.2.2.2.2.2.1 u.2.2.2.2.2.2.2.2.2.2.2.2.2.1 u.2.2.2.2.2.2.2.2.2.2.2.2.2.2.1 u.2.2.2.2.2.2.2.2.2.2.2.2.2.2.2.1 llo lhi u.2.2.2.2.2.2.2.2.2.2.2.2.2.2.2.2 cq oo (vp_updL ov (nI 0).toNatClampNeg r.toInt64)) H := hP
    have hD : va_D A (wO cy a key val u.1 u.2.1 cp u.2.2.1 u.2.2.2.1 u.2.2.2.2.1 u.2.2.2.2.2.1 u.2.2.2.2.2.2.1 u.2.2.2.2.2.2.2.1 dbl u.2.2.2.2.2.2.2.2.1 spl u.2.2.2.2.2.2.2.2.2.1 u.2.2.2.2.2.2.2.2.2.2.1 u.2.2.2.2.2.2.2.2.2.2.2.1 u.2.2.2.2.2.2.2.2.2.2.2.2.1 u.2.2.2.2.2.2.2.2.2.2.2.2.2.1 u.2.2.2.2.2.2.2.2.2.2.2.2.2.2.1 u.2.2.2.2.2.2.2.2.2.2.2.2.2.2.2.1 llo lhi u.2.2.2.2.2.2.2.2.2.2.2.2.2.2.2.2 cq oo (vp_updL ov (nI 0).toNatClampNeg r.toInt64)) := hD
    refine lv_goto (tgt := 15) hx hb dL_remove_9 (by decide) ?_
    refine lv_iconst (v := nI 0) hx hb dL_remove_15 (by decide) ?_
    exact tq_iret (v := nI 0) C rfl (u.1, u.2.1, u.2.2.1, u.2.2.2.1, u.2.2.2.2.1, u.2.2.2.2.2.1, u.2.2.2.2.2.2.1, u.2.2.2.2.2.2.2.1, u.2.2.2.2.2.2.2.2.1, u.2.2.2.2.2.2.2.2.2.1, u.2.2.2.2.2.2.2.2.2.2.1, u.2.2.2.2.2.2.2.2.2.2.2.1, u.2.2.2.2.2.2.2.2.2.2.2.2.1, u.2.2.2.2.2.2.2.2.2.2.2.2.2.1, u.2.2.2.2.2.2.2.2.2.2.2.2.2.2.1, u.2.2.2.2.2.2.2.2.2.2.2.2.2.2.2.1, u.2.2.2.2.2.2.2.2.2.2.2.2.2.2.2.2, vp_updL ov (nI 0).toNatClampNeg r.toInt64) hP hD hS (Or.inl ⟨rfl, r, tq_out0 (f := ov), hr⟩) (Nat.le_of_ble_eq_true rfl) (Nat.le_of_ble_eq_true rfl) dL_remove_16
theorem dL_get_0 : decode cL_get 0 = .ok (.aload_n 2, 1) := by decide +kernel
theorem dL_get_1 : decode cL_get 1 = .ok (.iconst 0, 1) := by decide +kernel
theorem dL_get_2 : decode cL_get 2 = .ok (.aload_n 0, 1) := by decide +kernel
theorem dL_get_3 : decode cL_get 3 = .ok (.iload_n 1, 1) := by decide +kernel
theorem dL_get_4 : decode cL_get 4 = .ok (.invokevirtual 21, 3) := by decide +kernel
theorem dL_get_7 : decode cL_get 7 = .ok (.i2l, 1) := by decide +kernel
theorem dL_get_8 : decode cL_get 8 = .ok (.lastore, 1) := by decide +kernel
theorem dL_get_9 : decode cL_get 9 = .ok (.goto 6, 3) := by decide +kernel
theorem dL_get_12 : decode cL_get 12 = .ok (.astore_n 3, 1) := by decide +kernel
theorem dL_get_13 : decode cL_get 13 = .ok (.iconst 1, 1) := by decide +kernel
theorem dL_get_14 : decode cL_get 14 = .ok (.ireturn, 1) := by decide +kernel
theorem dL_get_15 : decode cL_get 15 = .ok (.iconst 0, 1) := by decide +kernel
theorem dL_get_16 : decode cL_get 16 = .ok (.ireturn, 1) := by decide +kernel
set_option maxHeartbeats 4000000 in
set_option maxRecDepth 100000 in
theorem c_L_get (l : Launch) (hl9 : l.stackTraces = false) (D : va_G) (cy cq : ClassId) (a : Nat → Nat) (key : Nat → Nat) (val : Nat → Nat) (ord : Nat → Nat) (tk : Nat) (cp : Nat) (efi : Nat → Nat) (ela : Nat → Nat) (eco : Nat → Nat) (ene : Nat → Nat) (ldp : Nat → Nat) (dp : Nat) (dbl : Int32) (hlv : Int32) (spl : Int32) (mrg : Int32) (lfi : Nat → Nat) (lla : Nat → Nat) (lco : Nat → Nat) (lne : Nat → Nat) (lev : Nat) (ptr : Nat) (llo : Nat) (lhi : Nat) (lsp : Int32) (oo : Nat) (ov : Nat → Int64) (p1 : Int32) (dep : Nat → Nat) (E L : List Nat) (hCR : CR key val ord tk cp efi ela eco ene ldp dp lfi lla lco lne lev ptr llo lhi dep E L)  : tq_L (S := (Nat → Int64)) l yL_get cL_get 4 [(0, 9, 12, 13)] 9 145 D cy cq (wO cy a key val ord tk cp efi ela eco ene ldp dp dbl hlv spl mrg lfi lla lco lne lev ptr llo lhi lsp cq oo ov) [.ref (a 0), .int p1, .ref oo] (fun k u => (k = nI 0 ∧ ∃ r : Int32, u 0 = r.toInt64 ∧ (fun r => getP (stl key val ord tk) p1 r) r) ∨ (∃ E9, (fun E9 => E9 = "java/lang/IllegalArgumentException" ∧ ¬ isKey p1) E9 ∧ k = cod E9 ∧ u = (ov))) (fun u => (wO cy a key val ord tk cp efi ela eco ene ldp dp dbl hlv spl mrg lfi lla lco lne lev ptr llo lhi lsp cq oo u)) := by
  refine tq_L.mk (by decide) (Nat.le_of_ble_eq_true rfl) ?_
  intro p e s m args below meth c A C hX hN hP hK hD hS hA hE ls hl
  obtain ⟨hx, hb, hml, hown, hrt, hlk, hT⟩ := id C
  have hl : lv_has ls 4 [(0, .ref (a 0)), (1, .int p1), (2, .ref oo)] := hl
  have hK1 : va_K D vwCl (tq_ty cy) s := hK.sub [0] rfl
  refine lv_aload_n hx hb dL_get_0 rfl (lv_at hl 2 rfl) ?_
  refine lv_iconst (v := nI 0) hx hb dL_get_1 (by decide) ?_
  refine lv_aload_n hx hb dL_get_2 rfl (lv_at hl 0 rfl) ?_
  refine lv_iload_n hx hb dL_get_3 rfl (lv_at hl 1 rfl) ?_
  refine tq_tryF (vx_runV C.fix (As := [.int p1]) (rest := [.int (nI 0), .ref oo]) (c_X4_get l hl9 D cy a key val ord tk cp efi ela eco ene ldp dp dbl hlv spl mrg lfi lla lco lne lev ptr llo lhi lsp p1 dep E L hCR s.heap.size) (tq_cV (n := 1) C ml_L_21 im_X4_get se_X4_get ini_X4 cd_X4_get ⟨by decide, by decide, by decide +kernel⟩ ⟨Nat.le_of_ble_eq_true rfl, Nat.le_of_ble_eq_true rfl⟩) ⟨tq_Px.blind, va_recv hK hP (ci := 4) (q0 := 0) rfl rfl, tq_preX C hK1 hP hD hS hA hE [0, 1, 2, 3, 4, 5, 6, 7, 8, 9, 10, 11, 12, 13, 14, 15, 16, 17] (by decide) rfl⟩ rfl rfl hl.1 rfl (lv_room (Nat.le_of_ble_eq_true rfl)) dL_get_4 ⟨Nat.le_of_ble_eq_true rfl, Nat.le_of_ble_eq_true rfl⟩) hP hS (fun E9 ce q9 H locs hpx hP hS hce hcv hcl => ?_) (fun r hr => ?_)
  · obtain ⟨rfl, _⟩ := id hpx
    refine vx_catch (own := "TwinHashTablesLaw") (name := "java/lang/IllegalArgumentException") (E := "java/lang/IllegalArgumentException") hown [] ⟨0, 9, 12, 13⟩ [] hX (fun z hz => nomatch hz) rfl (by decide) (hT.use clk_L_13 rfl) (hT.use cst_IllegalArgumentException_IllegalArgumentException rfl) hce hcv hcl ?_
    refine lv_astore_n (lv' := [(3, .ref q9), (0, .ref (a 0)), (1, .int p1), (2, .ref oo)]) hx hb dL_get_12 rfl hl (by decide) rfl (fun ls hl => ?_)
    refine lv_iconst (v := nI 1) hx hb dL_get_13 (by decide) ?_
    exact tq_iret (v := nI 1) C rfl (ov) hP hD hS (Or.inr ⟨_, hpx, rfl, rfl⟩) (Nat.le_of_ble_eq_true rfl) (Nat.le_of_ble_eq_true rfl) dL_get_14
  · refine lv_i2l (v := r.toInt64) hx hb dL_get_7 rfl ?_
    refine va_last C.1 C.2.1 hK hP hD hS 18 1 rfl rfl tq_in0 dL_get_8 (fun H locs hP hD hS => ?_)
    have hP : va_P D vwCl (wO cy a key val ord tk cp efi ela eco ene ldp dp dbl hlv spl mrg lfi lla lco lne lev ptr llo lhi lsp cq oo (vp_updL ov (nI 0).toNatClampNeg r.toInt64)) H := hP
    have hD : va_D A (wO cy a key val ord tk cp efi ela eco ene ldp dp dbl hlv spl mrg lfi lla lco lne lev ptr llo lhi lsp cq oo (vp_updL ov (nI 0).toNatClampNeg r.toInt64)) := hD
    refine lv_goto (tgt := 15) hx hb dL_get_9 (by decide) ?_
    refine lv_iconst (v := nI 0) hx hb dL_get_15 (by decide) ?_
    exact tq_iret (v := nI 0) C rfl (vp_updL ov (nI 0).toNatClampNeg r.toInt64) hP hD hS (Or.inl ⟨rfl, r, tq_out0 (f := ov), hr⟩) (Nat.le_of_ble_eq_true rfl) (Nat.le_of_ble_eq_true rfl) dL_get_16
theorem dL_getByLinear_0 : decode cL_getByLinear 0 = .ok (.aload_n 2, 1) := by decide +kernel
theorem dL_getByLinear_1 : decode cL_getByLinear 1 = .ok (.iconst 0, 1) := by decide +kernel
theorem dL_getByLinear_2 : decode cL_getByLinear 2 = .ok (.aload_n 0, 1) := by decide +kernel
theorem dL_getByLinear_3 : decode cL_getByLinear 3 = .ok (.iload_n 1, 1) := by decide +kernel
theorem dL_getByLinear_4 : decode cL_getByLinear 4 = .ok (.invokevirtual 24, 3) := by decide +kernel
theorem dL_getByLinear_7 : decode cL_getByLinear 7 = .ok (.i2l, 1) := by decide +kernel
theorem dL_getByLinear_8 : decode cL_getByLinear 8 = .ok (.lastore, 1) := by decide +kernel
theorem dL_getByLinear_9 : decode cL_getByLinear 9 = .ok (.goto 6, 3) := by decide +kernel
theorem dL_getByLinear_12 : decode cL_getByLinear 12 = .ok (.astore_n 3, 1) := by decide +kernel
theorem dL_getByLinear_13 : decode cL_getByLinear 13 = .ok (.iconst 1, 1) := by decide +kernel
theorem dL_getByLinear_14 : decode cL_getByLinear 14 = .ok (.ireturn, 1) := by decide +kernel
theorem dL_getByLinear_15 : decode cL_getByLinear 15 = .ok (.iconst 0, 1) := by decide +kernel
theorem dL_getByLinear_16 : decode cL_getByLinear 16 = .ok (.ireturn, 1) := by decide +kernel
set_option maxHeartbeats 4000000 in
set_option maxRecDepth 100000 in
theorem c_L_getByLinear (l : Launch) (hl9 : l.stackTraces = false) (D : va_G) (cy cq : ClassId) (a : Nat → Nat) (key : Nat → Nat) (val : Nat → Nat) (ord : Nat → Nat) (tk : Nat) (cp : Nat) (efi : Nat → Nat) (ela : Nat → Nat) (eco : Nat → Nat) (ene : Nat → Nat) (ldp : Nat → Nat) (dp : Nat) (dbl : Int32) (hlv : Int32) (spl : Int32) (mrg : Int32) (lfi : Nat → Nat) (lla : Nat → Nat) (lco : Nat → Nat) (lne : Nat → Nat) (lev : Nat) (ptr : Nat) (llo : Nat) (lhi : Nat) (lsp : Int32) (oo : Nat) (ov : Nat → Int64) (p1 : Int32) (dep : Nat → Nat) (E L : List Nat) (hCR : CR key val ord tk cp efi ela eco ene ldp dp lfi lla lco lne lev ptr llo lhi dep E L)  : tq_L (S := (Nat → Int64)) l yL_getByLinear cL_getByLinear 4 [(0, 9, 12, 13)] 9 145 D cy cq (wO cy a key val ord tk cp efi ela eco ene ldp dp dbl hlv spl mrg lfi lla lco lne lev ptr llo lhi lsp cq oo ov) [.ref (a 0), .int p1, .ref oo] (fun k u => (k = nI 0 ∧ ∃ r : Int32, u 0 = r.toInt64 ∧ (fun r => getP (stl key val ord tk) p1 r) r) ∨ (∃ E9, (fun E9 => E9 = "java/lang/IllegalArgumentException" ∧ ¬ isKey p1) E9 ∧ k = cod E9 ∧ u = (ov))) (fun u => (wO cy a key val ord tk cp efi ela eco ene ldp dp dbl hlv spl mrg lfi lla lco lne lev ptr llo lhi lsp cq oo u)) := by
  refine tq_L.mk (by decide) (Nat.le_of_ble_eq_true rfl) ?_
  intro p e s m args below meth c A C hX hN hP hK hD hS hA hE ls hl
  obtain ⟨hx, hb, hml, hown, hrt, hlk, hT⟩ := id C
  have hl : lv_has ls 4 [(0, .ref (a 0)), (1, .int p1), (2, .ref oo)] := hl
  have hK1 : va_K D vwCl (tq_ty cy) s := hK.sub [0] rfl
  refine lv_aload_n hx hb dL_getByLinear_0 rfl (lv_at hl 2 rfl) ?_
  refine lv_iconst (v := nI 0) hx hb dL_getByLinear_1 (by decide) ?_
  refine lv_aload_n hx hb dL_getByLinear_2 rfl (lv_at hl 0 rfl) ?_
  refine lv_iload_n hx hb dL_getByLinear_3 rfl (lv_at hl 1 rfl) ?_
  refine tq_tryF (vx_runV C.fix (As := [.int p1]) (rest := [.int (nI 0), .ref oo]) (c_X4_getByLinear l hl9 D cy a key val ord tk cp efi ela eco ene ldp dp dbl hlv spl mrg lfi lla lco lne lev ptr llo lhi lsp p1 dep E L hCR s.heap.size) (tq_cV (n := 1) C ml_L_24 im_X4_getByLinear se_X4_getByLinear ini_X4 cd_X4_getByLinear ⟨by decide, by decide, by decide +kernel⟩ ⟨Nat.le_of_ble_eq_true rfl, Nat.le_of_ble_eq_true rfl⟩) ⟨tq_Px.blind, va_recv hK hP (ci := 4) (q0 := 0) rfl rfl, tq_preX C hK1 hP hD hS hA hE [0, 1, 2, 3, 4, 5, 6, 7, 8, 9, 10, 11, 12, 13, 14, 15, 16, 17] (by decide) rfl⟩ rfl rfl hl.1 rfl (lv_room (Nat.le_of_ble_eq_true rfl)) dL_getByLinear_4 ⟨Nat.le_of_ble_eq_true rfl, Nat.le_of_ble_eq_true rfl⟩) hP hS (fun E9 ce q9 H locs hpx hP hS hce hcv hcl => ?_) (fun r hr => ?_)
  · obtain ⟨rfl, _⟩ := id hpx
    refine vx_catch (own := "TwinHashTablesLaw") (name := "java/lang/IllegalArgumentException") (E := "java/lang/IllegalArgumentException") hown [] ⟨0, 9, 12, 13⟩ [] hX (fun z hz => nomatch hz) rfl (by decide) (hT.use clk_L_13 rfl) (hT.use cst_IllegalArgumentException_IllegalArgumentException rfl) hce hcv hcl ?_
    refine lv_astore_n (lv' := [(3, .ref q9), (0, .ref (a 0)), (1, .int p1), (2, .ref oo)]) hx hb dL_getByLinear_12 rfl hl (by decide) rfl (fun ls hl => ?_)
    refine lv_iconst (v := nI 1) hx hb dL_getByLinear_13 (by decide) ?_
    exact tq_iret (v := nI 1) C rfl (ov) hP hD hS (Or.inr ⟨_, hpx, rfl, rfl⟩) (Nat.le_of_ble_eq_true rfl) (Nat.le_of_ble_eq_true rfl) dL_getByLinear_14
  · refine lv_i2l (v := r.toInt64) hx hb dL_getByLinear_7 rfl ?_
    refine va_last C.1 C.2.1 hK hP hD hS 18 1 rfl rfl tq_in0 dL_getByLinear_8 (fun H locs hP hD hS => ?_)
    have hP : va_P D vwCl (wO cy a key val ord tk cp efi ela eco ene ldp dp dbl hlv spl mrg lfi lla lco lne lev ptr llo lhi lsp cq oo (vp_updL ov (nI 0).toNatClampNeg r.toInt64)) H := hP
    have hD : va_D A (wO cy a key val ord tk cp efi ela eco ene ldp dp dbl hlv spl mrg lfi lla lco lne lev ptr llo lhi lsp cq oo (vp_updL ov (nI 0).toNatClampNeg r.toInt64)) := hD
    refine lv_goto (tgt := 15) hx hb dL_getByLinear_9 (by decide) ?_
    refine lv_iconst (v := nI 0) hx hb dL_getByLinear_15 (by decide) ?_
    exact tq_iret (v := nI 0) C rfl (vp_updL ov (nI 0).toNatClampNeg r.toInt64) hP hD hS (Or.inl ⟨rfl, r, tq_out0 (f := ov), hr⟩) (Nat.le_of_ble_eq_true rfl) (Nat.le_of_ble_eq_true rfl) dL_getByLinear_16
theorem dL_rebuild_0 : decode cL_rebuild 0 = .ok (.aload_n 2, 1) := by decide +kernel
theorem dL_rebuild_1 : decode cL_rebuild 1 = .ok (.iconst 0, 1) := by decide +kernel
theorem dL_rebuild_2 : decode cL_rebuild 2 = .ok (.aload_n 0, 1) := by decide +kernel
theorem dL_rebuild_3 : decode cL_rebuild 3 = .ok (.iload_n 1, 1) := by decide +kernel
theorem dL_rebuild_4 : decode cL_rebuild 4 = .ok (.invokevirtual 27, 3) := by decide +kernel
theorem dL_rebuild_7 : decode cL_rebuild 7 = .ok (.i2l, 1) := by decide +kernel
theorem dL_rebuild_8 : decode cL_rebuild 8 = .ok (.lastore, 1) := by decide +kernel
theorem dL_rebuild_9 : decode cL_rebuild 9 = .ok (.goto 6, 3) := by decide +kernel
theorem dL_rebuild_12 : decode cL_rebuild 12 = .ok (.astore_n 3, 1) := by decide +kernel
theorem dL_rebuild_13 : decode cL_rebuild 13 = .ok (.iconst 1, 1) := by decide +kernel
theorem dL_rebuild_14 : decode cL_rebuild 14 = .ok (.ireturn, 1) := by decide +kernel
theorem dL_rebuild_15 : decode cL_rebuild 15 = .ok (.iconst 0, 1) := by decide +kernel
theorem dL_rebuild_16 : decode cL_rebuild 16 = .ok (.ireturn, 1) := by decide +kernel
set_option maxHeartbeats 4000000 in
set_option maxRecDepth 100000 in
theorem c_L_rebuild (l : Launch) (hl9 : l.stackTraces = false) (D : va_G) (cy cq : ClassId) (a : Nat → Nat) (key : Nat → Nat) (val : Nat → Nat) (ord : Nat → Nat) (tk : Nat) (cp : Nat) (efi : Nat → Nat) (ela : Nat → Nat) (eco : Nat → Nat) (ene : Nat → Nat) (ldp : Nat → Nat) (dp : Nat) (dbl : Int32) (hlv : Int32) (spl : Int32) (mrg : Int32) (lfi : Nat → Nat) (lla : Nat → Nat) (lco : Nat → Nat) (lne : Nat → Nat) (lev : Nat) (ptr : Nat) (llo : Nat) (lhi : Nat) (lsp : Int32) (oo : Nat) (ov : Nat → Int64) (p1 : Int32) (dep : Nat → Nat) (E L : List Nat) (hCR : CR key val ord tk cp efi ela eco ene ldp dp lfi lla lco lne lev ptr llo lhi dep E L)  : tq_L (S := Nat × Nat × (Nat → Nat) × (Nat → Nat) × (Nat → Nat) × (Nat → Nat) × (Nat → Nat) × Nat × Int32 × Int32 × (Nat → Nat) × (Nat → Nat) × (Nat → Nat) × (Nat → Nat) × Nat × Nat × Int32 × (Nat → Int64)) l yL_rebuild cL_rebuild 4 [(0, 9, 12, 13)] 8 161 D cy cq (wO cy a key val ord tk cp efi ela eco ene ldp dp dbl hlv spl mrg lfi lla lco lne lev ptr llo lhi lsp cq oo ov) [.ref (a 0), .int p1, .ref oo] (fun k u => (k = nI 0 ∧ ∃ r : Int32, u.2.2.2.2.2.2.2.2.2.2.2.2.2.2.2.2.2 0 = r.toInt64 ∧ (fun r u => ∃ cq : Nat, 1 ≤ cq ∧ cq ≤ 5 ∧ p1 = nI cq ∧ r = nI cp ∧ ∃ dep2 E2 L2, CR key val ord u.1 u.2.1 u.2.2.1 u.2.2.2.1 u.2.2.2.2.1 u.2.2.2.2.2.1 u.2.2.2.2.2.2.1 u.2.2.2.2.2.2.2.1 u.2.2.2.2.2.2.2.2.2.2.1 u.2.2.2.2.2.2.2.2.2.2.2.1 u.2.2.2.2.2.2.2.2.2.2.2.2.1 u.2.2.2.2.2.2.2.2.2.2.2.2.2.1 u.2.2.2.2.2.2.2.2.2.2.2.2.2.2.1 u.2.2.2.2.2.2.2.2.2.2.2.2.2.2.2.1 llo lhi dep2 E2 L2 ∧ mkA key val ord u.1 u.2.1 dep2 u.2.2.2.2.2.2.2.1 E2 u.2.2.2.2.2.2.2.2.1 hlv u.2.2.2.2.2.2.2.2.2.1 mrg L2 u.2.2.2.2.2.2.2.2.2.2.2.2.2.2.1 u.2.2.2.2.2.2.2.2.2.2.2.2.2.2.2.1 llo lhi u.2.2.2.2.2.2.2.2.2.2.2.2.2.2.2.2 = areb (mkA key val ord tk cp dep dp E dbl hlv spl mrg L lev ptr llo lhi lsp) cq) r (u.1, u.2.1, u.2.2.1, u.2.2.2.1, u.2.2.2.2.1, u.2.2.2.2.2.1, u.2.2.2.2.2.2.1, u.2.2.2.2.2.2.2.1, u.2.2.2.2.2.2.2.2.1, u.2.2.2.2.2.2.2.2.2.1, u.2.2.2.2.2.2.2.2.2.2.1, u.2.2.2.2.2.2.2.2.2.2.2.1, u.2.2.2.2.2.2.2.2.2.2.2.2.1, u.2.2.2.2.2.2.2.2.2.2.2.2.2.1, u.2.2.2.2.2.2.2.2.2.2.2.2.2.2.1, u.2.2.2.2.2.2.2.2.2.2.2.2.2.2.2.1, u.2.2.2.2.2.2.2.2.2.2.2.2.2.2.2.2.1)) ∨ (∃ E9, (fun E9 => E9 = "java/lang/IllegalArgumentException" ∧ ¬ ∃ cq : Nat, 1 ≤ cq ∧ cq ≤ 5 ∧ p1 = nI cq) E9 ∧ k = cod E9 ∧ u = (tk, cp, efi, ela, eco, ene, ldp, dp, dbl, spl, lfi, lla, lco, lne, lev, ptr, lsp, ov))) (fun u => (wO cy a key val ord u.1 u.2.1 u.2.2.1 u.2.2.2.1 u.2.2.2.2.1 u.2.2.2.2.2.1 u.2.2.2.2.2.2.1 u.2.2.2.2.2.2.2.1 u.2.2.2.2.2.2.2.2.1 hlv u.2.2.2.2.2.2.2.2.2.1 mrg u.2.2.2.2.2.2.2.2.2.2.1 u.2.2.2.2.2.2.2.2.2.2.2.1 u.2.2.2.2.2.2.2.2.2.2.2.2.1 u.2.2.2.2.2.2.2.2.2.2.2.2.2.1 u.2.2.2.2.2.2.2.2.2.2.2.2.2.2.1 u.2.2.2.2.2.2.2.2.2.2.2.2.2.2.2.1 llo lhi u.2.2.2.2.2.2.2.2.2.2.2.2.2.2.2.2.1 cq oo u.2.2.2.2.2.2.2.2.2.2.2.2.2.2.2.2.2)) := by
  refine tq_L.mk (by decide) (Nat.le_of_ble_eq_true rfl) ?_
  intro p e s m args below meth c A C hX hN hP hK hD hS hA hE ls hl
  obtain ⟨hx, hb, hml, hown, hrt, hlk, hT⟩ := id C
  have hl : lv_has ls 4 [(0, .ref (a 0)), (1, .int p1), (2, .ref oo)] := hl
  have hK1 : va_K D vwCl (tq_ty cy) s := hK.sub [0] rfl
  refine lv_aload_n hx hb dL_rebuild_0 rfl (lv_at hl 2 rfl) ?_
  refine lv_iconst (v := nI 0) hx hb dL_rebuild_1 (by decide) ?_
  refine lv_aload_n hx hb dL_rebuild_2 rfl (lv_at hl 0 rfl) ?_
  refine lv_iload_n hx hb dL_rebuild_3 rfl (lv_at hl 1 rfl) ?_
  refine tq_tryI (W3 := fun u => (wO cy a key val ord u.1 u.2.1 u.2.2.1 u.2.2.2.1 u.2.2.2.2.1 u.2.2.2.2.2.1 u.2.2.2.2.2.2.1 u.2.2.2.2.2.2.2.1 u.2.2.2.2.2.2.2.2.1 hlv u.2.2.2.2.2.2.2.2.2.1 mrg u.2.2.2.2.2.2.2.2.2.2.1 u.2.2.2.2.2.2.2.2.2.2.2.1 u.2.2.2.2.2.2.2.2.2.2.2.2.1 u.2.2.2.2.2.2.2.2.2.2.2.2.2.1 u.2.2.2.2.2.2.2.2.2.2.2.2.2.2.1 u.2.2.2.2.2.2.2.2.2.2.2.2.2.2.2.1 llo lhi u.2.2.2.2.2.2.2.2.2.2.2.2.2.2.2.2 cq oo ov)) (wr := [(oo, .inl (cq, 1, .inr (.inl ov)))]) (vx_runV C.fix (As := [.int p1]) (rest := [.int (nI 0), .ref oo]) (c_X4_rebuild l hl9 D cy a key val ord tk cp efi ela eco ene ldp dp dbl hlv spl mrg lfi lla lco lne lev ptr llo lhi lsp p1 dep E L hCR s.heap.size) (tq_cV (n := 1) C ml_L_27 im_X4_rebuild se_X4_rebuild ini_X4 cd_X4_rebuild ⟨by decide, by decide, by decide +kernel⟩ ⟨Nat.le_of_ble_eq_true rfl, Nat.le_of_ble_eq_true rfl⟩) ⟨tq_Px.blind, va_recv hK hP (ci := 4) (q0 := 0) rfl rfl, tq_preX C hK1 hP hD hS hA hE [0, 1, 2, 3, 4, 5, 6, 7, 8, 9, 10, 11, 12, 13, 14, 15, 16, 17] (by decide) rfl⟩ rfl rfl hl.1 rfl (lv_room (Nat.le_of_ble_eq_true rfl)) dL_rebuild_4 ⟨Nat.le_of_ble_eq_true rfl, Nat.le_of_ble_eq_true rfl⟩) hP hD hS hA [0, 1, 2, 3, 4, 5, 6, 7, 8, 9, 10, 11, 12, 13, 14, 15, 16, 17] [18] [1, 2, 3, 4, 5, 6, 7, 8, 9, 10, 11, 12, 13, 14, 15, 16, 17, 18, 0] rfl rfl (by decide) (by decide) (by decide) (fun _ => rfl) (fun E9 ce q9 H locs hpx hP hS hce hcv hcl => ?_) (fun r u H locs hr hP hD hS => ?_)
  · obtain ⟨rfl, _⟩ := id hpx
    refine vx_catch (own := "TwinHashTablesLaw") (name := "java/lang/IllegalArgumentException") (E := "java/lang/IllegalArgumentException") hown [] ⟨0, 9, 12, 13⟩ [] hX (fun z hz => nomatch hz) rfl (by decide) (hT.use clk_L_13 rfl) (hT.use cst_IllegalArgumentException_IllegalArgumentException rfl) hce hcv hcl ?_
    refine lv_astore_n (lv' := [(3, .ref q9), (0, .ref (a 0)), (1, .int p1), (2, .ref oo)]) hx hb dL_rebuild_12 rfl hl (by decide) rfl (fun ls hl => ?_)
    refine lv_iconst (v := nI 1) hx hb dL_rebuild_13 (by decide) ?_
    exact tq_iret (v := nI 1) C rfl (tk, cp, efi, ela, eco, ene, ldp, dp, dbl, spl, lfi, lla, lco, lne, lev, ptr, lsp, ov) hP hD hS (Or.inr ⟨_, hpx, rfl, rfl⟩) (Nat.le_of_ble_eq_true rfl) (Nat.le_of_ble_eq_true rfl) dL_rebuild_14
  · refine lv_i2l (v := r.toInt64) hx hb dL_rebuild_7 rfl ?_
    have hP : va_P D vwCl (wO cy a key val ord u.1 u.2.1 u.2.2.1 u.2.2.2.1 u.2.2.2.2.1 u.2.2.2.2.2.1 u.2.2.2.2.2.2.1 u.2.2.2.2.2.2.2.1 u.2.2.2.2.2.2.2.2.1 hlv u.2.2.2.2.2.2.2.2.2.1 mrg u.2.2.2.2.2.2.2.2.2.2.1 u.2.2.2.2.2.2.2.2.2.2.2.1 u.2.2.2.2.2.2.2.2.2.2.2.2.1 u.2.2.2.2.2.2.2.2.2.2.2.2.2.1 u.2.2.2.2.2.2.2.2.2.2.2.2.2.2.1 u.2.2.2.2.2.2.2.2.2.2.2.2.2.2.2.1 llo lhi u.2.2.2.2.2.2.2.2.2.2.2.2.2.2.2.2 cq oo ov) H := hP
    have hD : va_D A (wO cy a key val ord u.1 u.2.1 u.2.2.1 u.2.2.2.1 u.2.2.2.2.1 u.2.2.2.2.2.1 u.2.2.2.2.2.2.1 u.2.2.2.2.2.2.2.1 u.2.2.2.2.2.2.2.2.1 hlv u.2.2.2.2.2.2.2.2.2.1 mrg u.2.2.2.2.2.2.2.2.2.2.1 u.2.2.2.2.2.2.2.2.2.2.2.1 u.2.2.2.2.2.2.2.2.2.2.2.2.1 u.2.2.2.2.2.2.2.2.2.2.2.2.2.1 u.2.2.2.2.2.2.2.2.2.2.2.2.2.2.1 u.2.2.2.2.2.2.2.2.2.2.2.2.2.2.2.1 llo lhi u.2.2.2.2.2.2.2.2.2.2.2.2.2.2.2.2 cq oo ov) := hD
    refine va_last C.1 C.2.1 hK hP hD hS 18 1 rfl rfl tq_in0 dL_rebuild_8 (fun H locs hP hD hS => ?_)
    have hP : va_P D vwCl (wO cy a key val ord u.1 u.2.1 u.2.2.1 u.2.2.2.1 u.2.2.2.2.1 u.2.2.2.2.2.1 u.2.2.2.2.2.2.1 u.2.2.2.2.2.2.2.1 u.2.2.2.2.2.2.2.2.1 hlv u.2.2.2.2.2.2.2.2.2.1 mrg u.2.2.2.2.2.2.2.2.2.2.1 u.2.2.2.2.2.2.2.2.2.2.2.1 u.2.2.2.2.2.2.2.2.2.2.2.2.1 u.2.2.2.2.2.2.2.2.2.2.2.2.2.1 u.2.2.2.2.2.2.2.2.2.2.2.2.2.2.1 u.2.2.2.2.2.2.2.2.2.2.2.2.2.2.2.1 llo lhi u.2.2.2.2.2.2.2.2.2.2.2.2.2.2.2.2 cq oo (vp_updL ov (nI 0).toNatClampNeg r.toInt64)) H := hP
    have hD : va_D A (wO cy a key val ord u.1 u.2.1 u.2.2.1 u.2.2.2.1 u.2.2.2.2.1 u.2.2.2.2.2.1 u.2.2.2.2.2.2.1 u.2.2.2.2.2.2.2.1 u.2.2.2.2.2.2.2.2.1 hlv u.2.2.2.2.2.2.2.2.2.1 mrg u.2.2.2.2.2.2.2.2.2.2.1 u.2.2.2.2.2.2.2.2.2.2.2.1 u.2.2.2.2.2.2.2.2.2.2.2.2.1 u.2.2.2.2.2.2.2.2.2.2.2.2.2.1 u.2.2.2.2.2.2.2.2.2.2.2.2.2.2.1 u.2.2.2.2.2.2.2.2.2.2.2.2.2.2.2.1 llo lhi u.2.2.2.2.2.2.2.2.2.2.2.2.2.2.2.2 cq oo (vp_updL ov (nI 0).toNatClampNeg r.toInt64)) := hD
    refine lv_goto (tgt := 15) hx hb dL_rebuild_9 (by decide) ?_
    refine lv_iconst (v := nI 0) hx hb dL_rebuild_15 (by decide) ?_
    exact tq_iret (v := nI 0) C rfl (u.1, u.2.1, u.2.2.1, u.2.2.2.1, u.2.2.2.2.1, u.2.2.2.2.2.1, u.2.2.2.2.2.2.1, u.2.2.2.2.2.2.2.1, u.2.2.2.2.2.2.2.2.1, u.2.2.2.2.2.2.2.2.2.1, u.2.2.2.2.2.2.2.2.2.2.1, u.2.2.2.2.2.2.2.2.2.2.2.1, u.2.2.2.2.2.2.2.2.2.2.2.2.1, u.2.2.2.2.2.2.2.2.2.2.2.2.2.1, u.2.2.2.2.2.2.2.2.2.2.2.2.2.2.1, u.2.2.2.2.2.2.2.2.2.2.2.2.2.2.2.1, u.2.2.2.2.2.2.2.2.2.2.2.2.2.2.2.2, vp_updL ov (nI 0).toNatClampNeg r.toInt64) hP hD hS (Or.inl ⟨rfl, r, tq_out0 (f := ov), hr⟩) (Nat.le_of_ble_eq_true rfl) (Nat.le_of_ble_eq_true rfl) dL_rebuild_16
theorem dL_setLoads_0 : decode cL_setLoads 0 = .ok (.aload_n 3, 1) := by decide +kernel
theorem dL_setLoads_1 : decode cL_setLoads 1 = .ok (.iconst 0, 1) := by decide +kernel
theorem dL_setLoads_2 : decode cL_setLoads 2 = .ok (.aload_n 0, 1) := by decide +kernel
theorem dL_setLoads_3 : decode cL_setLoads 3 = .ok (.iload_n 1, 1) := by decide +kernel
theorem dL_setLoads_4 : decode cL_setLoads 4 = .ok (.iload_n 2, 1) := by decide +kernel
theorem dL_setLoads_5 : decode cL_setLoads 5 = .ok (.invokevirtual 30, 3) := by decide +kernel
theorem dL_setLoads_8 : decode cL_setLoads 8 = .ok (.i2l, 1) := by decide +kernel
theorem dL_setLoads_9 : decode cL_setLoads 9 = .ok (.lastore, 1) := by decide +kernel
theorem dL_setLoads_10 : decode cL_setLoads 10 = .ok (.goto 7, 3) := by decide +kernel
theorem dL_setLoads_13 : decode cL_setLoads 13 = .ok (.astore 4, 2) := by decide +kernel
theorem dL_setLoads_15 : decode cL_setLoads 15 = .ok (.iconst 1, 1) := by decide +kernel
theorem dL_setLoads_16 : decode cL_setLoads 16 = .ok (.ireturn, 1) := by decide +kernel
theorem dL_setLoads_17 : decode cL_setLoads 17 = .ok (.iconst 0, 1) := by decide +kernel
theorem dL_setLoads_18 : decode cL_setLoads 18 = .ok (.ireturn, 1) := by decide +kernel
set_option maxHeartbeats 4000000 in
set_option maxRecDepth 100000 in
theorem c_L_setLoads (l : Launch) (hl9 : l.stackTraces = false) (D : va_G) (cy cq : ClassId) (a : Nat → Nat) (key : Nat → Nat) (val : Nat → Nat) (ord : Nat → Nat) (tk : Nat) (cp : Nat) (efi : Nat → Nat) (ela : Nat → Nat) (eco : Nat → Nat) (ene : Nat → Nat) (ldp : Nat → Nat) (dp : Nat) (dbl : Int32) (hlv : Int32) (spl : Int32) (mrg : Int32) (lfi : Nat → Nat) (lla : Nat → Nat) (lco : Nat → Nat) (lne : Nat → Nat) (lev : Nat) (ptr : Nat) (llo : Nat) (lhi : Nat) (lsp : Int32) (oo : Nat) (ov : Nat → Int64) (p1 : Int32) (p2 : Int32) (dep : Nat → Nat) (E L : List Nat) (hCR : CR key val ord tk cp efi ela eco ene ldp dp lfi lla lco lne lev ptr llo lhi dep E L)  : tq_L (S := Nat × Nat × (Nat → Int64)) l yL_setLoads cL_setLoads 5 [(0, 10, 13, 13)] 8 127 D cy cq (wO cy a key val ord tk cp efi ela eco ene ldp dp dbl hlv spl mrg lfi lla lco lne lev ptr llo lhi lsp cq oo ov) [.ref (a 0), .int p1, .int p2, .ref oo] (fun k u => (k = nI 0 ∧ ∃ r : Int32, u.2.2 0 = r.toInt64 ∧ (fun r u => ∃ lo hi : Nat, lo ≤ 50 ∧ 50 ≤ hi ∧ hi ≤ 200 ∧ 2 * lo ≤ hi ∧ p1 = nI lo ∧ p2 = nI hi ∧ r = nI lhi ∧ ∃ dep2 E2 L2, CR key val ord tk cp efi ela eco ene ldp dp lfi lla lco lne lev ptr u.1 u.2 dep2 E2 L2 ∧ mkA key val ord tk cp dep2 dp E2 dbl hlv spl mrg L2 lev ptr u.1 u.2 lsp = (((stl key val ord tk), cp, lo, hi), (mkA key val ord tk cp dep dp E dbl hlv spl mrg L lev ptr llo lhi lsp).2)) r (u.1, u.2.1)) ∨ (∃ E9, (fun E9 => E9 = "java/lang/IllegalArgumentException" ∧ ¬ ∃ lo hi : Nat, lo ≤ 50 ∧ 50 ≤ hi ∧ hi ≤ 200 ∧ 2 * lo ≤ hi ∧ p1 = nI lo ∧ p2 = nI hi) E9 ∧ k = cod E9 ∧ u = (llo, lhi, ov))) (fun u => (wO cy a key val ord tk cp efi ela eco ene ldp dp dbl hlv spl mrg lfi lla lco lne lev ptr u.1 u.2.1 lsp cq oo u.2.2)) := by
  refine tq_L.mk (by decide) (Nat.le_of_ble_eq_true rfl) ?_
  intro p e s m args below meth c A C hX hN hP hK hD hS hA hE ls hl
  obtain ⟨hx, hb, hml, hown, hrt, hlk, hT⟩ := id C
  have hl : lv_has ls 5 [(0, .ref (a 0)), (1, .int p1), (2, .int p2), (3, .ref oo)] := hl
  have hK1 : va_K D vwCl (tq_ty cy) s := hK.sub [0] rfl
  refine lv_aload_n hx hb dL_setLoads_0 rfl (lv_at hl 3 rfl) ?_
  refine lv_iconst (v := nI 0) hx hb dL_setLoads_1 (by decide) ?_
  refine lv_aload_n hx hb dL_setLoads_2 rfl (lv_at hl 0 rfl) ?_
  refine lv_iload_n hx hb dL_setLoads_3 rfl (lv_at hl 1 rfl) ?_
  refine lv_iload_n hx hb dL_setLoads_4 rfl (lv_at hl 2 rfl) ?_
  refine tq_tryI (W3 := fun u => (wO cy a key val ord tk cp efi ela eco ene ldp dp dbl hlv spl mrg lfi lla lco lne lev ptr u.1 u.2 lsp cq oo ov)) (wr := [(oo, .inl (cq, 1, .inr (.inl ov)))]) (vx_runV C.fix (As := [.int p1, .int p2]) (rest := [.int (nI 0), .ref oo]) (c_X4_setLoads l hl9 D cy a key val ord tk cp efi ela eco ene ldp dp dbl hlv spl mrg lfi lla lco lne lev ptr llo lhi lsp p1 p2 dep E L hCR s.heap.size) (tq_cV (n := 2) C ml_L_30 im_X4_setLoads se_X4_setLoads ini_X4 cd_X4_setLoads ⟨by decide, by decide, by decide +kernel⟩ ⟨Nat.le_of_ble_eq_true rfl, Nat.le_of_ble_eq_true rfl⟩) ⟨tq_Px.blind, va_recv hK hP (ci := 4) (q0 := 0) rfl rfl, tq_preX C hK1 hP hD hS hA hE [0, 1, 2, 3, 4, 5, 6, 7, 8, 9, 10, 11, 12, 13, 14, 15, 16, 17] (by decide) rfl⟩ rfl rfl hl.1 rfl (lv_room (Nat.le_of_ble_eq_true rfl)) dL_setLoads_5 ⟨Nat.le_of_ble_eq_true rfl, Nat.le_of_ble_eq_true rfl⟩) hP hD hS hA [0, 1, 2, 3, 4, 5, 6, 7, 8, 9, 10, 11, 12, 13, 14, 15, 16, 17] [18] [1, 2, 3, 4, 5, 6, 7, 8, 9, 10, 11, 12, 13, 14, 15, 16, 17, 18, 0] rfl rfl (by decide) (by decide) (by decide) (fun _ => rfl) (fun E9 ce q9 H locs hpx hP hS hce hcv hcl => ?_) (fun r u H locs hr hP hD hS => ?_)
  · obtain ⟨rfl, _⟩ := id hpx
    refine vx_catch (own := "TwinHashTablesLaw") (name := "java/lang/IllegalArgumentException") (E := "java/lang/IllegalArgumentException") hown [] ⟨0, 10, 13, 13⟩ [] hX (fun z hz => nomatch hz) rfl (by decide) (hT.use clk_L_13 rfl) (hT.use cst_IllegalArgumentException_IllegalArgumentException rfl) hce hcv hcl ?_
    refine lv_astore (lv' := [(4, .ref q9), (0, .ref (a 0)), (1, .int p1), (2, .int p2), (3, .ref oo)]) hx hb dL_setLoads_13 hl (by decide) rfl (fun ls hl => ?_)
    refine lv_iconst (v := nI 1) hx hb dL_setLoads_15 (by decide) ?_
    exact tq_iret (v := nI 1) C rfl (llo, lhi, ov) hP hD hS (Or.inr ⟨_, hpx, rfl, rfl⟩) (Nat.le_of_ble_eq_true rfl) (Nat.le_of_ble_eq_true rfl) dL_setLoads_16
  · refine lv_i2l (v := r.toInt64) hx hb dL_setLoads_8 rfl ?_
    have hP : va_P D vwCl (wO cy a key val ord tk cp efi ela eco ene ldp dp dbl hlv spl mrg lfi lla lco lne lev ptr u.1 u.2 lsp cq oo ov) H := hP
    have hD : va_D A (wO cy a key val ord tk cp efi ela eco ene ldp dp dbl hlv spl mrg lfi lla lco lne lev ptr u.1 u.2 lsp cq oo ov) := hD
    refine va_last C.1 C.2.1 hK hP hD hS 18 1 rfl rfl tq_in0 dL_setLoads_9 (fun H locs hP hD hS => ?_)
    have hP : va_P D vwCl (wO cy a key val ord tk cp efi ela eco ene ldp dp dbl hlv spl mrg lfi lla lco lne lev ptr u.1 u.2 lsp cq oo (vp_updL ov (nI 0).toNatClampNeg r.toInt64)) H := hP
    have hD : va_D A (wO cy a key val ord tk cp efi ela eco ene ldp dp dbl hlv spl mrg lfi lla lco lne lev ptr u.1 u.2 lsp cq oo (vp_updL ov (nI 0).toNatClampNeg r.toInt64)) := hD
    refine lv_goto (tgt := 17) hx hb dL_setLoads_10 (by decide) ?_
    refine lv_iconst (v := nI 0) hx hb dL_setLoads_17 (by decide) ?_
    exact tq_iret (v := nI 0) C rfl (u.1, u.2, vp_updL ov (nI 0).toNatClampNeg r.toInt64) hP hD hS (Or.inl ⟨rfl, r, tq_out0 (f := ov), hr⟩) (Nat.le_of_ble_eq_true rfl) (Nat.le_of_ble_eq_true rfl) dL_setLoads_18
theorem dL_hashOf_0 : decode cL_hashOf 0 = .ok (.aload_n 2, 1) := by decide +kernel
theorem dL_hashOf_1 : decode cL_hashOf 1 = .ok (.iconst 0, 1) := by decide +kernel
theorem dL_hashOf_2 : decode cL_hashOf 2 = .ok (.aload_n 0, 1) := by decide +kernel
theorem dL_hashOf_3 : decode cL_hashOf 3 = .ok (.iload_n 1, 1) := by decide +kernel
theorem dL_hashOf_4 : decode cL_hashOf 4 = .ok (.invokevirtual 33, 3) := by decide +kernel
theorem dL_hashOf_7 : decode cL_hashOf 7 = .ok (.i2l, 1) := by decide +kernel
theorem dL_hashOf_8 : decode cL_hashOf 8 = .ok (.lastore, 1) := by decide +kernel
theorem dL_hashOf_9 : decode cL_hashOf 9 = .ok (.goto 6, 3) := by decide +kernel
theorem dL_hashOf_12 : decode cL_hashOf 12 = .ok (.astore_n 3, 1) := by decide +kernel
theorem dL_hashOf_13 : decode cL_hashOf 13 = .ok (.iconst 1, 1) := by decide +kernel
theorem dL_hashOf_14 : decode cL_hashOf 14 = .ok (.ireturn, 1) := by decide +kernel
theorem dL_hashOf_15 : decode cL_hashOf 15 = .ok (.iconst 0, 1) := by decide +kernel
theorem dL_hashOf_16 : decode cL_hashOf 16 = .ok (.ireturn, 1) := by decide +kernel
set_option maxHeartbeats 4000000 in
set_option maxRecDepth 100000 in
theorem c_L_hashOf (l : Launch) (hl9 : l.stackTraces = false) (D : va_G) (cy cq : ClassId) (a : Nat → Nat) (key : Nat → Nat) (val : Nat → Nat) (ord : Nat → Nat) (tk : Nat) (cp : Nat) (efi : Nat → Nat) (ela : Nat → Nat) (eco : Nat → Nat) (ene : Nat → Nat) (ldp : Nat → Nat) (dp : Nat) (dbl : Int32) (hlv : Int32) (spl : Int32) (mrg : Int32) (lfi : Nat → Nat) (lla : Nat → Nat) (lco : Nat → Nat) (lne : Nat → Nat) (lev : Nat) (ptr : Nat) (llo : Nat) (lhi : Nat) (lsp : Int32) (oo : Nat) (ov : Nat → Int64) (p1 : Int32)  : tq_L (S := (Nat → Int64)) l yL_hashOf cL_hashOf 4 [(0, 9, 12, 13)] 9 145 D cy cq (wO cy a key val ord tk cp efi ela eco ene ldp dp dbl hlv spl mrg lfi lla lco lne lev ptr llo lhi lsp cq oo ov) [.ref (a 0), .int p1, .ref oo] (fun k u => (k = nI 0 ∧ ∃ r : Int32, u 0 = r.toInt64 ∧ (fun r => ∃ k, k < 65536 ∧ p1 = nI k ∧ r = nI (hs k)) r) ∨ (∃ E9, (fun E9 => E9 = "java/lang/IllegalArgumentException" ∧ ¬ isKey p1) E9 ∧ k = cod E9 ∧ u = (ov))) (fun u => (wO cy a key val ord tk cp efi ela eco ene ldp dp dbl hlv spl mrg lfi lla lco lne lev ptr llo lhi lsp cq oo u)) := by
  refine tq_L.mk (by decide) (Nat.le_of_ble_eq_true rfl) ?_
  intro p e s m args below meth c A C hX hN hP hK hD hS hA hE ls hl
  obtain ⟨hx, hb, hml, hown, hrt, hlk, hT⟩ := id C
  have hl : lv_has ls 4 [(0, .ref (a 0)), (1, .int p1), (2, .ref oo)] := hl
  have hK1 : va_K D vwCl (tq_ty cy) s := hK.sub [0] rfl
  refine lv_aload_n hx hb dL_hashOf_0 rfl (lv_at hl 2 rfl) ?_
  refine lv_iconst (v := nI 0) hx hb dL_hashOf_1 (by decide) ?_
  refine lv_aload_n hx hb dL_hashOf_2 rfl (lv_at hl 0 rfl) ?_
  refine lv_iload_n hx hb dL_hashOf_3 rfl (lv_at hl 1 rfl) ?_
  refine tq_tryF (vx_runV C.fix (As := [.int p1]) (rest := [.int (nI 0), .ref oo]) (c_X4_hashOf l hl9 D cy a key val ord tk cp efi ela eco ene ldp dp dbl hlv spl mrg lfi lla lco lne lev ptr llo lhi lsp p1  s.heap.size) (tq_cV (n := 1) C ml_L_33 im_X4_hashOf se_X4_hashOf ini_X4 cd_X4_hashOf ⟨by decide, by decide, by decide +kernel⟩ ⟨Nat.le_of_ble_eq_true rfl, Nat.le_of_ble_eq_true rfl⟩) ⟨tq_Px.blind, va_recv hK hP (ci := 4) (q0 := 0) rfl rfl, tq_preX C hK1 hP hD hS hA hE [0, 1, 2, 3, 4, 5, 6, 7, 8, 9, 10, 11, 12, 13, 14, 15, 16, 17] (by decide) rfl⟩ rfl rfl hl.1 rfl (lv_room (Nat.le_of_ble_eq_true rfl)) dL_hashOf_4 ⟨Nat.le_of_ble_eq_true rfl, Nat.le_of_ble_eq_true rfl⟩) hP hS (fun E9 ce q9 H locs hpx hP hS hce hcv hcl => ?_) (fun r hr => ?_)
  · obtain ⟨rfl, _⟩ := id hpx
    refine vx_catch (own := "TwinHashTablesLaw") (name := "java/lang/IllegalArgumentException") (E := "java/lang/IllegalArgumentException") hown [] ⟨0, 9, 12, 13⟩ [] hX (fun z hz => nomatch hz) rfl (by decide) (hT.use clk_L_13 rfl) (hT.use cst_IllegalArgumentException_IllegalArgumentException rfl) hce hcv hcl ?_
    refine lv_astore_n (lv' := [(3, .ref q9), (0, .ref (a 0)), (1, .int p1), (2, .ref oo)]) hx hb dL_hashOf_12 rfl hl (by decide) rfl (fun ls hl => ?_)
    refine lv_iconst (v := nI 1) hx hb dL_hashOf_13 (by decide) ?_
    exact tq_iret (v := nI 1) C rfl (ov) hP hD hS (Or.inr ⟨_, hpx, rfl, rfl⟩) (Nat.le_of_ble_eq_true rfl) (Nat.le_of_ble_eq_true rfl) dL_hashOf_14
  · refine lv_i2l (v := r.toInt64) hx hb dL_hashOf_7 rfl ?_
    refine va_last C.1 C.2.1 hK hP hD hS 18 1 rfl rfl tq_in0 dL_hashOf_8 (fun H locs hP hD hS => ?_)
    have hP : va_P D vwCl (wO cy a key val ord tk cp efi ela eco ene ldp dp dbl hlv spl mrg lfi lla lco lne lev ptr llo lhi lsp cq oo (vp_updL ov (nI 0).toNatClampNeg r.toInt64)) H := hP
    have hD : va_D A (wO cy a key val ord tk cp efi ela eco ene ldp dp dbl hlv spl mrg lfi lla lco lne lev ptr llo lhi lsp cq oo (vp_updL ov (nI 0).toNatClampNeg r.toInt64)) := hD
    refine lv_goto (tgt := 15) hx hb dL_hashOf_9 (by decide) ?_
    refine lv_iconst (v := nI 0) hx hb dL_hashOf_15 (by decide) ?_
    exact tq_iret (v := nI 0) C rfl (vp_updL ov (nI 0).toNatClampNeg r.toInt64) hP hD hS (Or.inl ⟨rfl, r, tq_out0 (f := ov), hr⟩) (Nat.le_of_ble_eq_true rfl) (Nat.le_of_ble_eq_true rfl) dL_hashOf_16
theorem dL_localDepth_0 : decode cL_localDepth 0 = .ok (.aload_n 2, 1) := by decide +kernel
theorem dL_localDepth_1 : decode cL_localDepth 1 = .ok (.iconst 0, 1) := by decide +kernel
theorem dL_localDepth_2 : decode cL_localDepth 2 = .ok (.aload_n 0, 1) := by decide +kernel
theorem dL_localDepth_3 : decode cL_localDepth 3 = .ok (.iload_n 1, 1) := by decide +kernel
theorem dL_localDepth_4 : decode cL_localDepth 4 = .ok (.invokevirtual 36, 3) := by decide +kernel
theorem dL_localDepth_7 : decode cL_localDepth 7 = .ok (.i2l, 1) := by decide +kernel
theorem dL_localDepth_8 : decode cL_localDepth 8 = .ok (.lastore, 1) := by decide +kernel
theorem dL_localDepth_9 : decode cL_localDepth 9 = .ok (.goto 6, 3) := by decide +kernel
theorem dL_localDepth_12 : decode cL_localDepth 12 = .ok (.astore_n 3, 1) := by decide +kernel
theorem dL_localDepth_13 : decode cL_localDepth 13 = .ok (.iconst 1, 1) := by decide +kernel
theorem dL_localDepth_14 : decode cL_localDepth 14 = .ok (.ireturn, 1) := by decide +kernel
theorem dL_localDepth_15 : decode cL_localDepth 15 = .ok (.iconst 0, 1) := by decide +kernel
theorem dL_localDepth_16 : decode cL_localDepth 16 = .ok (.ireturn, 1) := by decide +kernel
set_option maxHeartbeats 4000000 in
set_option maxRecDepth 100000 in
theorem c_L_localDepth (l : Launch) (hl9 : l.stackTraces = false) (D : va_G) (cy cq : ClassId) (a : Nat → Nat) (key : Nat → Nat) (val : Nat → Nat) (ord : Nat → Nat) (tk : Nat) (cp : Nat) (efi : Nat → Nat) (ela : Nat → Nat) (eco : Nat → Nat) (ene : Nat → Nat) (ldp : Nat → Nat) (dp : Nat) (dbl : Int32) (hlv : Int32) (spl : Int32) (mrg : Int32) (lfi : Nat → Nat) (lla : Nat → Nat) (lco : Nat → Nat) (lne : Nat → Nat) (lev : Nat) (ptr : Nat) (llo : Nat) (lhi : Nat) (lsp : Int32) (oo : Nat) (ov : Nat → Int64) (p1 : Int32) (dep : Nat → Nat) (E L : List Nat) (hCR : CR key val ord tk cp efi ela eco ene ldp dp lfi lla lco lne lev ptr llo lhi dep E L)  : tq_L (S := (Nat → Int64)) l yL_localDepth cL_localDepth 4 [(0, 9, 12, 39)] 9 145 D cy cq (wO cy a key val ord tk cp efi ela eco ene ldp dp dbl hlv spl mrg lfi lla lco lne lev ptr llo lhi lsp cq oo ov) [.ref (a 0), .int p1, .ref oo] (fun k u => (k = nI 0 ∧ ∃ r : Int32, u 0 = r.toInt64 ∧ (fun r => ∃ k, k < 2 ^ dp ∧ p1 = nI k ∧ r = nI (dep k)) r) ∨ (∃ E9, (fun E9 => E9 = "java/lang/IndexOutOfBoundsException" ∧ ¬ ∃ k : Nat, k < 2 ^ dp ∧ p1 = nI k) E9 ∧ k = cod E9 ∧ u = (ov))) (fun u => (wO cy a key val ord tk cp efi ela eco ene ldp dp dbl hlv spl mrg lfi lla lco lne lev ptr llo lhi lsp cq oo u)) := by
  refine tq_L.mk (by decide) (Nat.le_of_ble_eq_true rfl) ?_
  intro p e s m args below meth c A C hX hN hP hK hD hS hA hE ls hl
  obtain ⟨hx, hb, hml, hown, hrt, hlk, hT⟩ := id C
  have hl : lv_has ls 4 [(0, .ref (a 0)), (1, .int p1), (2, .ref oo)] := hl
  have hK1 : va_K D vwCl (tq_ty cy) s := hK.sub [0] rfl
  refine lv_aload_n hx hb dL_localDepth_0 rfl (lv_at hl 2 rfl) ?_
  refine lv_iconst (v := nI 0) hx hb dL_localDepth_1 (by decide) ?_
  refine lv_aload_n hx hb dL_localDepth_2 rfl (lv_at hl 0 rfl) ?_
  refine lv_iload_n hx hb dL_localDepth_3 rfl (lv_at hl 1 rfl) ?_
  refine tq_tryF (vx_runV C.fix (As := [.int p1]) (rest := [.int (nI 0), .ref oo]) (c_X4_localDepth l hl9 D cy a key val ord tk cp efi ela eco ene ldp dp dbl hlv spl mrg lfi lla lco lne lev ptr llo lhi lsp p1 dep E L hCR s.heap.size) (tq_cV (n := 1) C ml_L_36 im_X4_localDepth se_X4_localDepth ini_X4 cd_X4_localDepth ⟨by decide, by decide, by decide +kernel⟩ ⟨Nat.le_of_ble_eq_true rfl, Nat.le_of_ble_eq_true rfl⟩) ⟨tq_Px.blind, va_recv hK hP (ci := 4) (q0 := 0) rfl rfl, tq_preX C hK1 hP hD hS hA hE [0, 1, 2, 3, 4, 5, 6, 7, 8, 9, 10, 11, 12, 13, 14, 15, 16, 17] (by decide) rfl⟩ rfl rfl hl.1 rfl (lv_room (Nat.le_of_ble_eq_true rfl)) dL_localDepth_4 ⟨Nat.le_of_ble_eq_true rfl, Nat.le_of_ble_eq_true rfl⟩) hP hS (fun E9 ce q9 H locs hpx hP hS hce hcv hcl => ?_) (fun r hr => ?_)
  · obtain ⟨rfl, _⟩ := id hpx
    refine vx_catch (own := "TwinHashTablesLaw") (name := "java/lang/IndexOutOfBoundsException") (E := "java/lang/IndexOutOfBoundsException") hown [] ⟨0, 9, 12, 39⟩ [] hX (fun z hz => nomatch hz) rfl (by decide) (hT.use clk_L_39 rfl) (hT.use cst_IndexOutOfBoundsException_IndexOutOfBoundsException rfl) hce hcv hcl ?_
    refine lv_astore_n (lv' := [(3, .ref q9), (0, .ref (a 0)), (1, .int p1), (2, .ref oo)]) hx hb dL_localDepth_12 rfl hl (by decide) rfl (fun ls hl => ?_)
    refine lv_iconst (v := nI 1) hx hb dL_localDepth_13 (by decide) ?_
    exact tq_iret (v := nI 1) C rfl (ov) hP hD hS (Or.inr ⟨_, hpx, rfl, rfl⟩) (Nat.le_of_ble_eq_true rfl) (Nat.le_of_ble_eq_true rfl) dL_localDepth_14
  · refine lv_i2l (v := r.toInt64) hx hb dL_localDepth_7 rfl ?_
    refine va_last C.1 C.2.1 hK hP hD hS 18 1 rfl rfl tq_in0 dL_localDepth_8 (fun H locs hP hD hS => ?_)
    have hP : va_P D vwCl (wO cy a key val ord tk cp efi ela eco ene ldp dp dbl hlv spl mrg lfi lla lco lne lev ptr llo lhi lsp cq oo (vp_updL ov (nI 0).toNatClampNeg r.toInt64)) H := hP
    have hD : va_D A (wO cy a key val ord tk cp efi ela eco ene ldp dp dbl hlv spl mrg lfi lla lco lne lev ptr llo lhi lsp cq oo (vp_updL ov (nI 0).toNatClampNeg r.toInt64)) := hD
    refine lv_goto (tgt := 15) hx hb dL_localDepth_9 (by decide) ?_
    refine lv_iconst (v := nI 0) hx hb dL_localDepth_15 (by decide) ?_
    exact tq_iret (v := nI 0) C rfl (vp_updL ov (nI 0).toNatClampNeg r.toInt64) hP hD hS (Or.inl ⟨rfl, r, tq_out0 (f := ov), hr⟩) (Nat.le_of_ble_eq_true rfl) (Nat.le_of_ble_eq_true rfl) dL_localDepth_16
theorem dL_bucketSize_0 : decode cL_bucketSize 0 = .ok (.aload_n 2, 1) := by decide +kernel
theorem dL_bucketSize_1 : decode cL_bucketSize 1 = .ok (.iconst 0, 1) := by decide +kernel
theorem dL_bucketSize_2 : decode cL_bucketSize 2 = .ok (.aload_n 0, 1) := by decide +kernel
theorem dL_bucketSize_3 : decode cL_bucketSize 3 = .ok (.iload_n 1, 1) := by decide +kernel
theorem dL_bucketSize_4 : decode cL_bucketSize 4 = .ok (.invokevirtual 41, 3) := by decide +kernel
theorem dL_bucketSize_7 : decode cL_bucketSize 7 = .ok (.i2l, 1) := by decide +kernel
theorem dL_bucketSize_8 : decode cL_bucketSize 8 = .ok (.lastore, 1) := by decide +kernel
theorem dL_bucketSize_9 : decode cL_bucketSize 9 = .ok (.goto 6, 3) := by decide +kernel
theorem dL_bucketSize_12 : decode cL_bucketSize 12 = .ok (.astore_n 3, 1) := by decide +kernel
theorem dL_bucketSize_13 : decode cL_bucketSize 13 = .ok (.iconst 1, 1) := by decide +kernel
theorem dL_bucketSize_14 : decode cL_bucketSize 14 = .ok (.ireturn, 1) := by decide +kernel
theorem dL_bucketSize_15 : decode cL_bucketSize 15 = .ok (.iconst 0, 1) := by decide +kernel
theorem dL_bucketSize_16 : decode cL_bucketSize 16 = .ok (.ireturn, 1) := by decide +kernel
set_option maxHeartbeats 4000000 in
set_option maxRecDepth 100000 in
theorem c_L_bucketSize (l : Launch) (hl9 : l.stackTraces = false) (D : va_G) (cy cq : ClassId) (a : Nat → Nat) (key : Nat → Nat) (val : Nat → Nat) (ord : Nat → Nat) (tk : Nat) (cp : Nat) (efi : Nat → Nat) (ela : Nat → Nat) (eco : Nat → Nat) (ene : Nat → Nat) (ldp : Nat → Nat) (dp : Nat) (dbl : Int32) (hlv : Int32) (spl : Int32) (mrg : Int32) (lfi : Nat → Nat) (lla : Nat → Nat) (lco : Nat → Nat) (lne : Nat → Nat) (lev : Nat) (ptr : Nat) (llo : Nat) (lhi : Nat) (lsp : Int32) (oo : Nat) (ov : Nat → Int64) (p1 : Int32) (dep : Nat → Nat) (E L : List Nat) (hCR : CR key val ord tk cp efi ela eco ene ldp dp lfi lla lco lne lev ptr llo lhi dep E L)  : tq_L (S := (Nat → Int64)) l yL_bucketSize cL_bucketSize 4 [(0, 9, 12, 39)] 9 145 D cy cq (wO cy a key val ord tk cp efi ela eco ene ldp dp dbl hlv spl mrg lfi lla lco lne lev ptr llo lhi lsp cq oo ov) [.ref (a 0), .int p1, .ref oo] (fun k u => (k = nI 0 ∧ ∃ r : Int32, u 0 = r.toInt64 ∧ (fun r => ∃ k, k < 2 ^ dp ∧ p1 = nI k ∧ r = nI (clB E k (dep k)).length) r) ∨ (∃ E9, (fun E9 => E9 = "java/lang/IndexOutOfBoundsException" ∧ ¬ ∃ k : Nat, k < 2 ^ dp ∧ p1 = nI k) E9 ∧ k = cod E9 ∧ u = (ov))) (fun u => (wO cy a key val ord tk cp efi ela eco ene ldp dp dbl hlv spl mrg lfi lla lco lne lev ptr llo lhi lsp cq oo u)) := by
  refine tq_L.mk (by decide) (Nat.le_of_ble_eq_true rfl) ?_
  intro p e s m args below meth c A C hX hN hP hK hD hS hA hE ls hl
  obtain ⟨hx, hb, hml, hown, hrt, hlk, hT⟩ := id C
  have hl : lv_has ls 4 [(0, .ref (a 0)), (1, .int p1), (2, .ref oo)] := hl
  have hK1 : va_K D vwCl (tq_ty cy) s := hK.sub [0] rfl
  refine lv_aload_n hx hb dL_bucketSize_0 rfl (lv_at hl 2 rfl) ?_
  refine lv_iconst (v := nI 0) hx hb dL_bucketSize_1 (by decide) ?_
  refine lv_aload_n hx hb dL_bucketSize_2 rfl (lv_at hl 0 rfl) ?_
  refine lv_iload_n hx hb dL_bucketSize_3 rfl (lv_at hl 1 rfl) ?_
  refine tq_tryF (vx_runV C.fix (As := [.int p1]) (rest := [.int (nI 0), .ref oo]) (c_X4_bucketSize l hl9 D cy a key val ord tk cp efi ela eco ene ldp dp dbl hlv spl mrg lfi lla lco lne lev ptr llo lhi lsp p1 dep E L hCR s.heap.size) (tq_cV (n := 1) C ml_L_41 im_X4_bucketSize se_X4_bucketSize ini_X4 cd_X4_bucketSize ⟨by decide, by decide, by decide +kernel⟩ ⟨Nat.le_of_ble_eq_true rfl, Nat.le_of_ble_eq_true rfl⟩) ⟨tq_Px.blind, va_recv hK hP (ci := 4) (q0 := 0) rfl rfl, tq_preX C hK1 hP hD hS hA hE [0, 1, 2, 3, 4, 5, 6, 7, 8, 9, 10, 11, 12, 13, 14, 15, 16, 17] (by decide) rfl⟩ rfl rfl hl.1 rfl (lv_room (Nat.le_of_ble_eq_true rfl)) dL_bucketSize_4 ⟨Nat.le_of_ble_eq_true rfl, Nat.le_of_ble_eq_true rfl⟩) hP hS (fun E9 ce q9 H locs hpx hP hS hce hcv hcl => ?_) (fun r hr => ?_)
  · obtain ⟨rfl, _⟩ := id hpx
    refine vx_catch (own := "TwinHashTablesLaw") (name := "java/lang/IndexOutOfBoundsException") (E := "java/lang/IndexOutOfBoundsException") hown [] ⟨0, 9, 12, 39⟩ [] hX (fun z hz => nomatch hz) rfl (by decide) (hT.use clk_L_39 rfl) (hT.use cst_IndexOutOfBoundsException_IndexOutOfBoundsException rfl) hce hcv hcl ?_
    refine lv_astore_n (lv' := [(3, .ref q9), (0, .ref (a 0)), (1, .int p1), (2, .ref oo)]) hx hb dL_bucketSize_12 rfl hl (by decide) rfl (fun ls hl => ?_)
    refine lv_iconst (v := nI 1) hx hb dL_bucketSize_13 (by decide) ?_
    exact tq_iret (v := nI 1) C rfl (ov) hP hD hS (Or.inr ⟨_, hpx, rfl, rfl⟩) (Nat.le_of_ble_eq_true rfl) (Nat.le_of_ble_eq_true rfl) dL_bucketSize_14
  · refine lv_i2l (v := r.toInt64) hx hb dL_bucketSize_7 rfl ?_
    refine va_last C.1 C.2.1 hK hP hD hS 18 1 rfl rfl tq_in0 dL_bucketSize_8 (fun H locs hP hD hS => ?_)
    have hP : va_P D vwCl (wO cy a key val ord tk cp efi ela eco ene ldp dp dbl hlv spl mrg lfi lla lco lne lev ptr llo lhi lsp cq oo (vp_updL ov (nI 0).toNatClampNeg r.toInt64)) H := hP
    have hD : va_D A (wO cy a key val ord tk cp efi ela eco ene ldp dp dbl hlv spl mrg lfi lla lco lne lev ptr llo lhi lsp cq oo (vp_updL ov (nI 0).toNatClampNeg r.toInt64)) := hD
    refine lv_goto (tgt := 15) hx hb dL_bucketSize_9 (by decide) ?_
    refine lv_iconst (v := nI 0) hx hb dL_bucketSize_15 (by decide) ?_
    exact tq_iret (v := nI 0) C rfl (vp_updL ov (nI 0).toNatClampNeg r.toInt64) hP hD hS (Or.inl ⟨rfl, r, tq_out0 (f := ov), hr⟩) (Nat.le_of_ble_eq_true rfl) (Nat.le_of_ble_eq_true rfl) dL_bucketSize_16
theorem dL_keyAt_0 : decode cL_keyAt 0 = .ok (.aload_n 3, 1) := by decide +kernel
theorem dL_keyAt_1 : decode cL_keyAt 1 = .ok (.iconst 0, 1) := by decide +kernel
theorem dL_keyAt_2 : decode cL_keyAt 2 = .ok (.aload_n 0, 1) := by decide +kernel
theorem dL_keyAt_3 : decode cL_keyAt 3 = .ok (.iload_n 1, 1) := by decide +kernel
theorem dL_keyAt_4 : decode cL_keyAt 4 = .ok (.iload_n 2, 1) := by decide +kernel
theorem dL_keyAt_5 : decode cL_keyAt 5 = .ok (.invokevirtual 44, 3) := by decide +kernel
theorem dL_keyAt_8 : decode cL_keyAt 8 = .ok (.i2l, 1) := by decide +kernel
theorem dL_keyAt_9 : decode cL_keyAt 9 = .ok (.lastore, 1) := by decide +kernel
theorem dL_keyAt_10 : decode cL_keyAt 10 = .ok (.goto 7, 3) := by decide +kernel
theorem dL_keyAt_13 : decode cL_keyAt 13 = .ok (.astore 4, 2) := by decide +kernel
theorem dL_keyAt_15 : decode cL_keyAt 15 = .ok (.iconst 1, 1) := by decide +kernel
theorem dL_keyAt_16 : decode cL_keyAt 16 = .ok (.ireturn, 1) := by decide +kernel
theorem dL_keyAt_17 : decode cL_keyAt 17 = .ok (.iconst 0, 1) := by decide +kernel
theorem dL_keyAt_18 : decode cL_keyAt 18 = .ok (.ireturn, 1) := by decide +kernel
set_option maxHeartbeats 4000000 in
set_option maxRecDepth 100000 in
theorem c_L_keyAt (l : Launch) (hl9 : l.stackTraces = false) (D : va_G) (cy cq : ClassId) (a : Nat → Nat) (key : Nat → Nat) (val : Nat → Nat) (ord : Nat → Nat) (tk : Nat) (cp : Nat) (efi : Nat → Nat) (ela : Nat → Nat) (eco : Nat → Nat) (ene : Nat → Nat) (ldp : Nat → Nat) (dp : Nat) (dbl : Int32) (hlv : Int32) (spl : Int32) (mrg : Int32) (lfi : Nat → Nat) (lla : Nat → Nat) (lco : Nat → Nat) (lne : Nat → Nat) (lev : Nat) (ptr : Nat) (llo : Nat) (lhi : Nat) (lsp : Int32) (oo : Nat) (ov : Nat → Int64) (p1 : Int32) (p2 : Int32) (dep : Nat → Nat) (E L : List Nat) (hCR : CR key val ord tk cp efi ela eco ene ldp dp lfi lla lco lne lev ptr llo lhi dep E L)  : tq_L (S := (Nat → Int64)) l yL_keyAt cL_keyAt 5 [(0, 10, 13, 39)] 9 148 D cy cq (wO cy a key val ord tk cp efi ela eco ene ldp dp dbl hlv spl mrg lfi lla lco lne lev ptr llo lhi lsp cq oo ov) [.ref (a 0), .int p1, .int p2, .ref oo] (fun k u => (k = nI 0 ∧ ∃ r : Int32, u 0 = r.toInt64 ∧ (fun r => ∃ k, k < 2 ^ dp ∧ p1 = nI k ∧ ∃ p, p < (clB E k (dep k)).length ∧ p2 = nI p ∧ r = nI ((clB E k (dep k)).getD p 0)) r) ∨ (∃ E9, (fun E9 => E9 = "java/lang/IndexOutOfBoundsException" ∧ ¬ ∃ k p : Nat, k < 2 ^ dp ∧ p1 = nI k ∧ p < (clB E k (dep k)).length ∧ p2 = nI p) E9 ∧ k = cod E9 ∧ u = (ov))) (fun u => (wO cy a key val ord tk cp efi ela eco ene ldp dp dbl hlv spl mrg lfi lla lco lne lev ptr llo lhi lsp cq oo u)) := by
  refine tq_L.mk (by decide) (Nat.le_of_ble_eq_true rfl) ?_
  intro p e s m args below meth c A C hX hN hP hK hD hS hA hE ls hl
  obtain ⟨hx, hb, hml, hown, hrt, hlk, hT⟩ := id C
  have hl : lv_has ls 5 [(0, .ref (a 0)), (1, .int p1), (2, .int p2), (3, .ref oo)] := hl
  have hK1 : va_K D vwCl (tq_ty cy) s := hK.sub [0] rfl
  refine lv_aload_n hx hb dL_keyAt_0 rfl (lv_at hl 3 rfl) ?_
  refine lv_iconst (v := nI 0) hx hb dL_keyAt_1 (by decide) ?_
  refine lv_aload_n hx hb dL_keyAt_2 rfl (lv_at hl 0 rfl) ?_
  refine lv_iload_n hx hb dL_keyAt_3 rfl (lv_at hl 1 rfl) ?_
  refine lv_iload_n hx hb dL_keyAt_4 rfl (lv_at hl 2 rfl) ?_
  refine tq_tryF (vx_runV C.fix (As := [.int p1, .int p2]) (rest := [.int (nI 0), .ref oo]) (c_X4_keyAt l hl9 D cy a key val ord tk cp efi ela eco ene ldp dp dbl hlv spl mrg lfi lla lco lne lev ptr llo lhi lsp p1 p2 dep E L hCR s.heap.size) (tq_cV (n := 2) C ml_L_44 im_X4_keyAt se_X4_keyAt ini_X4 cd_X4_keyAt ⟨by decide, by decide, by decide +kernel⟩ ⟨Nat.le_of_ble_eq_true rfl, Nat.le_of_ble_eq_true rfl⟩) ⟨tq_Px.blind, va_recv hK hP (ci := 4) (q0 := 0) rfl rfl, tq_preX C hK1 hP hD hS hA hE [0, 1, 2, 3, 4, 5, 6, 7, 8, 9, 10, 11, 12, 13, 14, 15, 16, 17] (by decide) rfl⟩ rfl rfl hl.1 rfl (lv_room (Nat.le_of_ble_eq_true rfl)) dL_keyAt_5 ⟨Nat.le_of_ble_eq_true rfl, Nat.le_of_ble_eq_true rfl⟩) hP hS (fun E9 ce q9 H locs hpx hP hS hce hcv hcl => ?_) (fun r hr => ?_)
  · obtain ⟨rfl, _⟩ := id hpx
    refine vx_catch (own := "TwinHashTablesLaw") (name := "java/lang/IndexOutOfBoundsException") (E := "java/lang/IndexOutOfBoundsException") hown [] ⟨0, 10, 13, 39⟩ [] hX (fun z hz => nomatch hz) rfl (by decide) (hT.use clk_L_39 rfl) (hT.use cst_IndexOutOfBoundsException_IndexOutOfBoundsException rfl) hce hcv hcl ?_
    refine lv_astore (lv' := [(4, .ref q9), (0, .ref (a 0)), (1, .int p1), (2, .int p2), (3, .ref oo)]) hx hb dL_keyAt_13 hl (by decide) rfl (fun ls hl => ?_)
    refine lv_iconst (v := nI 1) hx hb dL_keyAt_15 (by decide) ?_
    exact tq_iret (v := nI 1) C rfl (ov) hP hD hS (Or.inr ⟨_, hpx, rfl, rfl⟩) (Nat.le_of_ble_eq_true rfl) (Nat.le_of_ble_eq_true rfl) dL_keyAt_16
  · refine lv_i2l (v := r.toInt64) hx hb dL_keyAt_8 rfl ?_
    refine va_last C.1 C.2.1 hK hP hD hS 18 1 rfl rfl tq_in0 dL_keyAt_9 (fun H locs hP hD hS => ?_)
    have hP : va_P D vwCl (wO cy a key val ord tk cp efi ela eco ene ldp dp dbl hlv spl mrg lfi lla lco lne lev ptr llo lhi lsp cq oo (vp_updL ov (nI 0).toNatClampNeg r.toInt64)) H := hP
    have hD : va_D A (wO cy a key val ord tk cp efi ela eco ene ldp dp dbl hlv spl mrg lfi lla lco lne lev ptr llo lhi lsp cq oo (vp_updL ov (nI 0).toNatClampNeg r.toInt64)) := hD
    refine lv_goto (tgt := 17) hx hb dL_keyAt_10 (by decide) ?_
    refine lv_iconst (v := nI 0) hx hb dL_keyAt_17 (by decide) ?_
    exact tq_iret (v := nI 0) C rfl (vp_updL ov (nI 0).toNatClampNeg r.toInt64) hP hD hS (Or.inl ⟨rfl, r, tq_out0 (f := ov), hr⟩) (Nat.le_of_ble_eq_true rfl) (Nat.le_of_ble_eq_true rfl) dL_keyAt_18
theorem dL_slotOf_0 : decode cL_slotOf 0 = .ok (.aload_n 2, 1) := by decide +kernel
theorem dL_slotOf_1 : decode cL_slotOf 1 = .ok (.iconst 0, 1) := by decide +kernel
theorem dL_slotOf_2 : decode cL_slotOf 2 = .ok (.aload_n 0, 1) := by decide +kernel
theorem dL_slotOf_3 : decode cL_slotOf 3 = .ok (.iload_n 1, 1) := by decide +kernel
theorem dL_slotOf_4 : decode cL_slotOf 4 = .ok (.invokevirtual 47, 3) := by decide +kernel
theorem dL_slotOf_7 : decode cL_slotOf 7 = .ok (.i2l, 1) := by decide +kernel
theorem dL_slotOf_8 : decode cL_slotOf 8 = .ok (.lastore, 1) := by decide +kernel
theorem dL_slotOf_9 : decode cL_slotOf 9 = .ok (.goto 6, 3) := by decide +kernel
theorem dL_slotOf_12 : decode cL_slotOf 12 = .ok (.astore_n 3, 1) := by decide +kernel
theorem dL_slotOf_13 : decode cL_slotOf 13 = .ok (.iconst 1, 1) := by decide +kernel
theorem dL_slotOf_14 : decode cL_slotOf 14 = .ok (.ireturn, 1) := by decide +kernel
theorem dL_slotOf_15 : decode cL_slotOf 15 = .ok (.iconst 0, 1) := by decide +kernel
theorem dL_slotOf_16 : decode cL_slotOf 16 = .ok (.ireturn, 1) := by decide +kernel
set_option maxHeartbeats 4000000 in
set_option maxRecDepth 100000 in
theorem c_L_slotOf (l : Launch) (hl9 : l.stackTraces = false) (D : va_G) (cy cq : ClassId) (a : Nat → Nat) (key : Nat → Nat) (val : Nat → Nat) (ord : Nat → Nat) (tk : Nat) (cp : Nat) (efi : Nat → Nat) (ela : Nat → Nat) (eco : Nat → Nat) (ene : Nat → Nat) (ldp : Nat → Nat) (dp : Nat) (dbl : Int32) (hlv : Int32) (spl : Int32) (mrg : Int32) (lfi : Nat → Nat) (lla : Nat → Nat) (lco : Nat → Nat) (lne : Nat → Nat) (lev : Nat) (ptr : Nat) (llo : Nat) (lhi : Nat) (lsp : Int32) (oo : Nat) (ov : Nat → Int64) (p1 : Int32) (dep : Nat → Nat) (E L : List Nat) (hCR : CR key val ord tk cp efi ela eco ene ldp dp lfi lla lco lne lev ptr llo lhi dep E L)  : tq_L (S := (Nat → Int64)) l yL_slotOf cL_slotOf 4 [(0, 9, 12, 13)] 9 145 D cy cq (wO cy a key val ord tk cp efi ela eco ene ldp dp dbl hlv spl mrg lfi lla lco lne lev ptr llo lhi lsp cq oo ov) [.ref (a 0), .int p1, .ref oo] (fun k u => (k = nI 0 ∧ ∃ r : Int32, u 0 = r.toInt64 ∧ (fun r => ∃ k, k < 65536 ∧ p1 = nI k ∧ r = nI (hs k % 2 ^ dp)) r) ∨ (∃ E9, (fun E9 => E9 = "java/lang/IllegalArgumentException" ∧ ¬ isKey p1) E9 ∧ k = cod E9 ∧ u = (ov))) (fun u => (wO cy a key val ord tk cp efi ela eco ene ldp dp dbl hlv spl mrg lfi lla lco lne lev ptr llo lhi lsp cq oo u)) := by
  refine tq_L.mk (by decide) (Nat.le_of_ble_eq_true rfl) ?_
  intro p e s m args below meth c A C hX hN hP hK hD hS hA hE ls hl
  obtain ⟨hx, hb, hml, hown, hrt, hlk, hT⟩ := id C
  have hl : lv_has ls 4 [(0, .ref (a 0)), (1, .int p1), (2, .ref oo)] := hl
  have hK1 : va_K D vwCl (tq_ty cy) s := hK.sub [0] rfl
  refine lv_aload_n hx hb dL_slotOf_0 rfl (lv_at hl 2 rfl) ?_
  refine lv_iconst (v := nI 0) hx hb dL_slotOf_1 (by decide) ?_
  refine lv_aload_n hx hb dL_slotOf_2 rfl (lv_at hl 0 rfl) ?_
  refine lv_iload_n hx hb dL_slotOf_3 rfl (lv_at hl 1 rfl) ?_
  refine tq_tryF (vx_runV C.fix (As := [.int p1]) (rest := [.int (nI 0), .ref oo]) (c_X4_slotOf l hl9 D cy a key val ord tk cp efi ela eco ene ldp dp dbl hlv spl mrg lfi lla lco lne lev ptr llo lhi lsp p1 dep E L hCR s.heap.size) (tq_cV (n := 1) C ml_L_47 im_X4_slotOf se_X4_slotOf ini_X4 cd_X4_slotOf ⟨by decide, by decide, by decide +kernel⟩ ⟨Nat.le_of_ble_eq_true rfl, Nat.le_of_ble_eq_true rfl⟩) ⟨tq_Px.blind, va_recv hK hP (ci := 4) (q0 := 0) rfl rfl, tq_preX C hK1 hP hD hS hA hE [0, 1, 2, 3, 4, 5, 6, 7, 8, 9, 10, 11, 12, 13, 14, 15, 16, 17] (by decide) rfl⟩ rfl rfl hl.1 rfl (lv_room (Nat.le_of_ble_eq_true rfl)) dL_slotOf_4 ⟨Nat.le_of_ble_eq_true rfl, Nat.le_of_ble_eq_true rfl⟩) hP hS (fun E9 ce q9 H locs hpx hP hS hce hcv hcl => ?_) (fun r hr => ?_)
  · obtain ⟨rfl, _⟩ := id hpx
    refine vx_catch (own := "TwinHashTablesLaw") (name := "java/lang/IllegalArgumentException") (E := "java/lang/IllegalArgumentException") hown [] ⟨0, 9, 12, 13⟩ [] hX (fun z hz => nomatch hz) rfl (by decide) (hT.use clk_L_13 rfl) (hT.use cst_IllegalArgumentException_IllegalArgumentException rfl) hce hcv hcl ?_
    refine lv_astore_n (lv' := [(3, .ref q9), (0, .ref (a 0)), (1, .int p1), (2, .ref oo)]) hx hb dL_slotOf_12 rfl hl (by decide) rfl (fun ls hl => ?_)
    refine lv_iconst (v := nI 1) hx hb dL_slotOf_13 (by decide) ?_
    exact tq_iret (v := nI 1) C rfl (ov) hP hD hS (Or.inr ⟨_, hpx, rfl, rfl⟩) (Nat.le_of_ble_eq_true rfl) (Nat.le_of_ble_eq_true rfl) dL_slotOf_14
  · refine lv_i2l (v := r.toInt64) hx hb dL_slotOf_7 rfl ?_
    refine va_last C.1 C.2.1 hK hP hD hS 18 1 rfl rfl tq_in0 dL_slotOf_8 (fun H locs hP hD hS => ?_)
    have hP : va_P D vwCl (wO cy a key val ord tk cp efi ela eco ene ldp dp dbl hlv spl mrg lfi lla lco lne lev ptr llo lhi lsp cq oo (vp_updL ov (nI 0).toNatClampNeg r.toInt64)) H := hP
    have hD : va_D A (wO cy a key val ord tk cp efi ela eco ene ldp dp dbl hlv spl mrg lfi lla lco lne lev ptr llo lhi lsp cq oo (vp_updL ov (nI 0).toNatClampNeg r.toInt64)) := hD
    refine lv_goto (tgt := 15) hx hb dL_slotOf_9 (by decide) ?_
    refine lv_iconst (v := nI 0) hx hb dL_slotOf_15 (by decide) ?_
    exact tq_iret (v := nI 0) C rfl (vp_updL ov (nI 0).toNatClampNeg r.toInt64) hP hD hS (Or.inl ⟨rfl, r, tq_out0 (f := ov), hr⟩) (Nat.le_of_ble_eq_true rfl) (Nat.le_of_ble_eq_true rfl) dL_slotOf_16
theorem dL_buddyOf_0 : decode cL_buddyOf 0 = .ok (.aload_n 2, 1) := by decide +kernel
theorem dL_buddyOf_1 : decode cL_buddyOf 1 = .ok (.iconst 0, 1) := by decide +kernel
theorem dL_buddyOf_2 : decode cL_buddyOf 2 = .ok (.aload_n 0, 1) := by decide +kernel
theorem dL_buddyOf_3 : decode cL_buddyOf 3 = .ok (.iload_n 1, 1) := by decide +kernel
theorem dL_buddyOf_4 : decode cL_buddyOf 4 = .ok (.invokevirtual 50, 3) := by decide +kernel
theorem dL_buddyOf_7 : decode cL_buddyOf 7 = .ok (.i2l, 1) := by decide +kernel
theorem dL_buddyOf_8 : decode cL_buddyOf 8 = .ok (.lastore, 1) := by decide +kernel
theorem dL_buddyOf_9 : decode cL_buddyOf 9 = .ok (.goto 6, 3) := by decide +kernel
theorem dL_buddyOf_12 : decode cL_buddyOf 12 = .ok (.astore_n 3, 1) := by decide +kernel
theorem dL_buddyOf_13 : decode cL_buddyOf 13 = .ok (.iconst 1, 1) := by decide +kernel
theorem dL_buddyOf_14 : decode cL_buddyOf 14 = .ok (.ireturn, 1) := by decide +kernel
theorem dL_buddyOf_15 : decode cL_buddyOf 15 = .ok (.iconst 0, 1) := by decide +kernel
theorem dL_buddyOf_16 : decode cL_buddyOf 16 = .ok (.ireturn, 1) := by decide +kernel
set_option maxHeartbeats 4000000 in
set_option maxRecDepth 100000 in
theorem c_L_buddyOf (l : Launch) (hl9 : l.stackTraces = false) (D : va_G) (cy cq : ClassId) (a : Nat → Nat) (key : Nat → Nat) (val : Nat → Nat) (ord : Nat → Nat) (tk : Nat) (cp : Nat) (efi : Nat → Nat) (ela : Nat → Nat) (eco : Nat → Nat) (ene : Nat → Nat) (ldp : Nat → Nat) (dp : Nat) (dbl : Int32) (hlv : Int32) (spl : Int32) (mrg : Int32) (lfi : Nat → Nat) (lla : Nat → Nat) (lco : Nat → Nat) (lne : Nat → Nat) (lev : Nat) (ptr : Nat) (llo : Nat) (lhi : Nat) (lsp : Int32) (oo : Nat) (ov : Nat → Int64) (p1 : Int32) (dep : Nat → Nat) (E L : List Nat) (hCR : CR key val ord tk cp efi ela eco ene ldp dp lfi lla lco lne lev ptr llo lhi dep E L)  : tq_L (S := (Nat → Int64)) l yL_buddyOf cL_buddyOf 4 [(0, 9, 12, 39)] 9 145 D cy cq (wO cy a key val ord tk cp efi ela eco ene ldp dp dbl hlv spl mrg lfi lla lco lne lev ptr llo lhi lsp cq oo ov) [.ref (a 0), .int p1, .ref oo] (fun k u => (k = nI 0 ∧ ∃ r : Int32, u 0 = r.toInt64 ∧ (fun r => ∃ k, k < 2 ^ dp ∧ p1 = nI k ∧ ((dep k = 0 ∧ r = -1) ∨ (0 < dep k ∧ dep (k ^^^ 2 ^ (dep k - 1)) = dep k ∧ r = nI ((k ^^^ 2 ^ (dep k - 1)) % 2 ^ dep k)) ∨ (0 < dep k ∧ dep (k ^^^ 2 ^ (dep k - 1)) ≠ dep k ∧ r = -1))) r) ∨ (∃ E9, (fun E9 => E9 = "java/lang/IndexOutOfBoundsException" ∧ ¬ ∃ k : Nat, k < 2 ^ dp ∧ p1 = nI k) E9 ∧ k = cod E9 ∧ u = (ov))) (fun u => (wO cy a key val ord tk cp efi ela eco ene ldp dp dbl hlv spl mrg lfi lla lco lne lev ptr llo lhi lsp cq oo u)) := by
  refine tq_L.mk (by decide) (Nat.le_of_ble_eq_true rfl) ?_
  intro p e s m args below meth c A C hX hN hP hK hD hS hA hE ls hl
  obtain ⟨hx, hb, hml, hown, hrt, hlk, hT⟩ := id C
  have hl : lv_has ls 4 [(0, .ref (a 0)), (1, .int p1), (2, .ref oo)] := hl
  have hK1 : va_K D vwCl (tq_ty cy) s := hK.sub [0] rfl
  refine lv_aload_n hx hb dL_buddyOf_0 rfl (lv_at hl 2 rfl) ?_
  refine lv_iconst (v := nI 0) hx hb dL_buddyOf_1 (by decide) ?_
  refine lv_aload_n hx hb dL_buddyOf_2 rfl (lv_at hl 0 rfl) ?_
  refine lv_iload_n hx hb dL_buddyOf_3 rfl (lv_at hl 1 rfl) ?_
  refine tq_tryF (vx_runV C.fix (As := [.int p1]) (rest := [.int (nI 0), .ref oo]) (c_X4_buddyOf l hl9 D cy a key val ord tk cp efi ela eco ene ldp dp dbl hlv spl mrg lfi lla lco lne lev ptr llo lhi lsp p1 dep E L hCR s.heap.size) (tq_cV (n := 1) C ml_L_50 im_X4_buddyOf se_X4_buddyOf ini_X4 cd_X4_buddyOf ⟨by decide, by decide, by decide +kernel⟩ ⟨Nat.le_of_ble_eq_true rfl, Nat.le_of_ble_eq_true rfl⟩) ⟨tq_Px.blind, va_recv hK hP (ci := 4) (q0 := 0) rfl rfl, tq_preX C hK1 hP hD hS hA hE [0, 1, 2, 3, 4, 5, 6, 7, 8, 9, 10, 11, 12, 13, 14, 15, 16, 17] (by decide) rfl⟩ rfl rfl hl.1 rfl (lv_room (Nat.le_of_ble_eq_true rfl)) dL_buddyOf_4 ⟨Nat.le_of_ble_eq_true rfl, Nat.le_of_ble_eq_true rfl⟩) hP hS (fun E9 ce q9 H locs hpx hP hS hce hcv hcl => ?_) (fun r hr => ?_)
  · obtain ⟨rfl, _⟩ := id hpx
    refine vx_catch (own := "TwinHashTablesLaw") (name := "java/lang/IndexOutOfBoundsException") (E := "java/lang/IndexOutOfBoundsException") hown [] ⟨0, 9, 12, 39⟩ [] hX (fun z hz => nomatch hz) rfl (by decide) (hT.use clk_L_39 rfl) (hT.use cst_IndexOutOfBoundsException_IndexOutOfBoundsException rfl) hce hcv hcl ?_
    refine lv_astore_n (lv' := [(3, .ref q9), (0, .ref (a 0)), (1, .int p1), (2, .ref oo)]) hx hb dL_buddyOf_12 rfl hl (by decide) rfl (fun ls hl => ?_)
    refine lv_iconst (v := nI 1) hx hb dL_buddyOf_13 (by decide) ?_
    exact tq_iret (v := nI 1) C rfl (ov) hP hD hS (Or.inr ⟨_, hpx, rfl, rfl⟩) (Nat.le_of_ble_eq_true rfl) (Nat.le_of_ble_eq_true rfl) dL_buddyOf_14
  · refine lv_i2l (v := r.toInt64) hx hb dL_buddyOf_7 rfl ?_
    refine va_last C.1 C.2.1 hK hP hD hS 18 1 rfl rfl tq_in0 dL_buddyOf_8 (fun H locs hP hD hS => ?_)
    have hP : va_P D vwCl (wO cy a key val ord tk cp efi ela eco ene ldp dp dbl hlv spl mrg lfi lla lco lne lev ptr llo lhi lsp cq oo (vp_updL ov (nI 0).toNatClampNeg r.toInt64)) H := hP
    have hD : va_D A (wO cy a key val ord tk cp efi ela eco ene ldp dp dbl hlv spl mrg lfi lla lco lne lev ptr llo lhi lsp cq oo (vp_updL ov (nI 0).toNatClampNeg r.toInt64)) := hD
    refine lv_goto (tgt := 15) hx hb dL_buddyOf_9 (by decide) ?_
    refine lv_iconst (v := nI 0) hx hb dL_buddyOf_15 (by decide) ?_
    exact tq_iret (v := nI 0) C rfl (vp_updL ov (nI 0).toNatClampNeg r.toInt64) hP hD hS (Or.inl ⟨rfl, r, tq_out0 (f := ov), hr⟩) (Nat.le_of_ble_eq_true rfl) (Nat.le_of_ble_eq_true rfl) dL_buddyOf_16
theorem dL_probes_0 : decode cL_probes 0 = .ok (.aload_n 2, 1) := by decide +kernel
theorem dL_probes_1 : decode cL_probes 1 = .ok (.iconst 0, 1) := by decide +kernel
theorem dL_probes_2 : decode cL_probes 2 = .ok (.aload_n 0, 1) := by decide +kernel
theorem dL_probes_3 : decode cL_probes 3 = .ok (.iload_n 1, 1) := by decide +kernel
theorem dL_probes_4 : decode cL_probes 4 = .ok (.invokevirtual 53, 3) := by decide +kernel
theorem dL_probes_7 : decode cL_probes 7 = .ok (.i2l, 1) := by decide +kernel
theorem dL_probes_8 : decode cL_probes 8 = .ok (.lastore, 1) := by decide +kernel
theorem dL_probes_9 : decode cL_probes 9 = .ok (.goto 6, 3) := by decide +kernel
theorem dL_probes_12 : decode cL_probes 12 = .ok (.astore_n 3, 1) := by decide +kernel
theorem dL_probes_13 : decode cL_probes 13 = .ok (.iconst 1, 1) := by decide +kernel
theorem dL_probes_14 : decode cL_probes 14 = .ok (.ireturn, 1) := by decide +kernel
theorem dL_probes_15 : decode cL_probes 15 = .ok (.iconst 0, 1) := by decide +kernel
theorem dL_probes_16 : decode cL_probes 16 = .ok (.ireturn, 1) := by decide +kernel
set_option maxHeartbeats 4000000 in
set_option maxRecDepth 100000 in
theorem c_L_probes (l : Launch) (hl9 : l.stackTraces = false) (D : va_G) (cy cq : ClassId) (a : Nat → Nat) (key : Nat → Nat) (val : Nat → Nat) (ord : Nat → Nat) (tk : Nat) (cp : Nat) (efi : Nat → Nat) (ela : Nat → Nat) (eco : Nat → Nat) (ene : Nat → Nat) (ldp : Nat → Nat) (dp : Nat) (dbl : Int32) (hlv : Int32) (spl : Int32) (mrg : Int32) (lfi : Nat → Nat) (lla : Nat → Nat) (lco : Nat → Nat) (lne : Nat → Nat) (lev : Nat) (ptr : Nat) (llo : Nat) (lhi : Nat) (lsp : Int32) (oo : Nat) (ov : Nat → Int64) (p1 : Int32) (dep : Nat → Nat) (E L : List Nat) (hCR : CR key val ord tk cp efi ela eco ene ldp dp lfi lla lco lne lev ptr llo lhi dep E L)  : tq_L (S := (Nat → Int64)) l yL_probes cL_probes 4 [(0, 9, 12, 13)] 9 145 D cy cq (wO cy a key val ord tk cp efi ela eco ene ldp dp dbl hlv spl mrg lfi lla lco lne lev ptr llo lhi lsp cq oo ov) [.ref (a 0), .int p1, .ref oo] (fun k u => (k = nI 0 ∧ ∃ r : Int32, u 0 = r.toInt64 ∧ (fun r => ∃ k, k < 65536 ∧ p1 = nI k ∧ prP (clB E (hs k % 256) (dep (hs k % 256))) cp k r) r) ∨ (∃ E9, (fun E9 => E9 = "java/lang/IllegalArgumentException" ∧ ¬ isKey p1) E9 ∧ k = cod E9 ∧ u = (ov))) (fun u => (wO cy a key val ord tk cp efi ela eco ene ldp dp dbl hlv spl mrg lfi lla lco lne lev ptr llo lhi lsp cq oo u)) := by
  refine tq_L.mk (by decide) (Nat.le_of_ble_eq_true rfl) ?_
  intro p e s m args below meth c A C hX hN hP hK hD hS hA hE ls hl
  obtain ⟨hx, hb, hml, hown, hrt, hlk, hT⟩ := id C
  have hl : lv_has ls 4 [(0, .ref (a 0)), (1, .int p1), (2, .ref oo)] := hl
  have hK1 : va_K D vwCl (tq_ty cy) s := hK.sub [0] rfl
  refine lv_aload_n hx hb dL_probes_0 rfl (lv_at hl 2 rfl) ?_
  refine lv_iconst (v := nI 0) hx hb dL_probes_1 (by decide) ?_
  refine lv_aload_n hx hb dL_probes_2 rfl (lv_at hl 0 rfl) ?_
  refine lv_iload_n hx hb dL_probes_3 rfl (lv_at hl 1 rfl) ?_
  refine tq_tryF (vx_runV C.fix (As := [.int p1]) (rest := [.int (nI 0), .ref oo]) (c_X4_probes l hl9 D cy a key val ord tk cp efi ela eco ene ldp dp dbl hlv spl mrg lfi lla lco lne lev ptr llo lhi lsp p1 dep E L hCR s.heap.size) (tq_cV (n := 1) C ml_L_53 im_X4_probes se_X4_probes ini_X4 cd_X4_probes ⟨by decide, by decide, by decide +kernel⟩ ⟨Nat.le_of_ble_eq_true rfl, Nat.le_of_ble_eq_true rfl⟩) ⟨tq_Px.blind, va_recv hK hP (ci := 4) (q0 := 0) rfl rfl, tq_preX C hK1 hP hD hS hA hE [0, 1, 2, 3, 4, 5, 6, 7, 8, 9, 10, 11, 12, 13, 14, 15, 16, 17] (by decide) rfl⟩ rfl rfl hl.1 rfl (lv_room (Nat.le_of_ble_eq_true rfl)) dL_probes_4 ⟨Nat.le_of_ble_eq_true rfl, Nat.le_of_ble_eq_true rfl⟩) hP hS (fun E9 ce q9 H locs hpx hP hS hce hcv hcl => ?_) (fun r hr => ?_)
  · obtain ⟨rfl, _⟩ := id hpx
    refine vx_catch (own := "TwinHashTablesLaw") (name := "java/lang/IllegalArgumentException") (E := "java/lang/IllegalArgumentException") hown [] ⟨0, 9, 12, 13⟩ [] hX (fun z hz => nomatch hz) rfl (by decide) (hT.use clk_L_13 rfl) (hT.use cst_IllegalArgumentException_IllegalArgumentException rfl) hce hcv hcl ?_
    refine lv_astore_n (lv' := [(3, .ref q9), (0, .ref (a 0)), (1, .int p1), (2, .ref oo)]) hx hb dL_probes_12 rfl hl (by decide) rfl (fun ls hl => ?_)
    refine lv_iconst (v := nI 1) hx hb dL_probes_13 (by decide) ?_
    exact tq_iret (v := nI 1) C rfl (ov) hP hD hS (Or.inr ⟨_, hpx, rfl, rfl⟩) (Nat.le_of_ble_eq_true rfl) (Nat.le_of_ble_eq_true rfl) dL_probes_14
  · refine lv_i2l (v := r.toInt64) hx hb dL_probes_7 rfl ?_
    refine va_last C.1 C.2.1 hK hP hD hS 18 1 rfl rfl tq_in0 dL_probes_8 (fun H locs hP hD hS => ?_)
    have hP : va_P D vwCl (wO cy a key val ord tk cp efi ela eco ene ldp dp dbl hlv spl mrg lfi lla lco lne lev ptr llo lhi lsp cq oo (vp_updL ov (nI 0).toNatClampNeg r.toInt64)) H := hP
    have hD : va_D A (wO cy a key val ord tk cp efi ela eco ene ldp dp dbl hlv spl mrg lfi lla lco lne lev ptr llo lhi lsp cq oo (vp_updL ov (nI 0).toNatClampNeg r.toInt64)) := hD
    refine lv_goto (tgt := 15) hx hb dL_probes_9 (by decide) ?_
    refine lv_iconst (v := nI 0) hx hb dL_probes_15 (by decide) ?_
    exact tq_iret (v := nI 0) C rfl (vp_updL ov (nI 0).toNatClampNeg r.toInt64) hP hD hS (Or.inl ⟨rfl, r, tq_out0 (f := ov), hr⟩) (Nat.le_of_ble_eq_true rfl) (Nat.le_of_ble_eq_true rfl) dL_probes_16
theorem dL_slotAt_0 : decode cL_slotAt 0 = .ok (.aload_n 2, 1) := by decide +kernel
theorem dL_slotAt_1 : decode cL_slotAt 1 = .ok (.iconst 0, 1) := by decide +kernel
theorem dL_slotAt_2 : decode cL_slotAt 2 = .ok (.aload_n 0, 1) := by decide +kernel
theorem dL_slotAt_3 : decode cL_slotAt 3 = .ok (.iload_n 1, 1) := by decide +kernel
theorem dL_slotAt_4 : decode cL_slotAt 4 = .ok (.invokevirtual 56, 3) := by decide +kernel
theorem dL_slotAt_7 : decode cL_slotAt 7 = .ok (.i2l, 1) := by decide +kernel
theorem dL_slotAt_8 : decode cL_slotAt 8 = .ok (.lastore, 1) := by decide +kernel
theorem dL_slotAt_9 : decode cL_slotAt 9 = .ok (.goto 6, 3) := by decide +kernel
theorem dL_slotAt_12 : decode cL_slotAt 12 = .ok (.astore_n 3, 1) := by decide +kernel
theorem dL_slotAt_13 : decode cL_slotAt 13 = .ok (.iconst 1, 1) := by decide +kernel
theorem dL_slotAt_14 : decode cL_slotAt 14 = .ok (.ireturn, 1) := by decide +kernel
theorem dL_slotAt_15 : decode cL_slotAt 15 = .ok (.iconst 0, 1) := by decide +kernel
theorem dL_slotAt_16 : decode cL_slotAt 16 = .ok (.ireturn, 1) := by decide +kernel
set_option maxHeartbeats 4000000 in
set_option maxRecDepth 100000 in
theorem c_L_slotAt (l : Launch) (hl9 : l.stackTraces = false) (D : va_G) (cy cq : ClassId) (a : Nat → Nat) (key : Nat → Nat) (val : Nat → Nat) (ord : Nat → Nat) (tk : Nat) (cp : Nat) (efi : Nat → Nat) (ela : Nat → Nat) (eco : Nat → Nat) (ene : Nat → Nat) (ldp : Nat → Nat) (dp : Nat) (dbl : Int32) (hlv : Int32) (spl : Int32) (mrg : Int32) (lfi : Nat → Nat) (lla : Nat → Nat) (lco : Nat → Nat) (lne : Nat → Nat) (lev : Nat) (ptr : Nat) (llo : Nat) (lhi : Nat) (lsp : Int32) (oo : Nat) (ov : Nat → Int64) (p1 : Int32) (dep : Nat → Nat) (E L : List Nat) (hCR : CR key val ord tk cp efi ela eco ene ldp dp lfi lla lco lne lev ptr llo lhi dep E L)  : tq_L (S := (Nat → Int64)) l yL_slotAt cL_slotAt 4 [(0, 9, 12, 13)] 8 125 D cy cq (wO cy a key val ord tk cp efi ela eco ene ldp dp dbl hlv spl mrg lfi lla lco lne lev ptr llo lhi lsp cq oo ov) [.ref (a 0), .int p1, .ref oo] (fun k u => (k = nI 0 ∧ ∃ r : Int32, u 0 = r.toInt64 ∧ (fun r => ∃ k, k < 256 ∧ p1 = nI k ∧ r = nI (k % 2 ^ dp)) r) ∨ (∃ E9, (fun E9 => E9 = "java/lang/IllegalArgumentException" ∧ ¬ ∃ k : Nat, k < 256 ∧ p1 = nI k) E9 ∧ k = cod E9 ∧ u = (ov))) (fun u => (wO cy a key val ord tk cp efi ela eco ene ldp dp dbl hlv spl mrg lfi lla lco lne lev ptr llo lhi lsp cq oo u)) := by
  refine tq_L.mk (by decide) (Nat.le_of_ble_eq_true rfl) ?_
  intro p e s m args below meth c A C hX hN hP hK hD hS hA hE ls hl
  obtain ⟨hx, hb, hml, hown, hrt, hlk, hT⟩ := id C
  have hl : lv_has ls 4 [(0, .ref (a 0)), (1, .int p1), (2, .ref oo)] := hl
  have hK1 : va_K D vwCl (tq_ty cy) s := hK.sub [0] rfl
  refine lv_aload_n hx hb dL_slotAt_0 rfl (lv_at hl 2 rfl) ?_
  refine lv_iconst (v := nI 0) hx hb dL_slotAt_1 (by decide) ?_
  refine lv_aload_n hx hb dL_slotAt_2 rfl (lv_at hl 0 rfl) ?_
  refine lv_iload_n hx hb dL_slotAt_3 rfl (lv_at hl 1 rfl) ?_
  refine tq_tryF (vx_runV C.fix (As := [.int p1]) (rest := [.int (nI 0), .ref oo]) (c_X4_slotAt l hl9 D cy a key val ord tk cp efi ela eco ene ldp dp dbl hlv spl mrg lfi lla lco lne lev ptr llo lhi lsp p1 dep E L hCR s.heap.size) (tq_cV (n := 1) C ml_L_56 im_X4_slotAt se_X4_slotAt ini_X4 cd_X4_slotAt ⟨by decide, by decide, by decide +kernel⟩ ⟨Nat.le_of_ble_eq_true rfl, Nat.le_of_ble_eq_true rfl⟩) ⟨tq_Px.blind, va_recv hK hP (ci := 4) (q0 := 0) rfl rfl, tq_preX C hK1 hP hD hS hA hE [0, 1, 2, 3, 4, 5, 6, 7, 8, 9, 10, 11, 12, 13, 14, 15, 16, 17] (by decide) rfl⟩ rfl rfl hl.1 rfl (lv_room (Nat.le_of_ble_eq_true rfl)) dL_slotAt_4 ⟨Nat.le_of_ble_eq_true rfl, Nat.le_of_ble_eq_true rfl⟩) hP hS (fun E9 ce q9 H locs hpx hP hS hce hcv hcl => ?_) (fun r hr => ?_)
  · obtain ⟨rfl, _⟩ := id hpx
    refine vx_catch (own := "TwinHashTablesLaw") (name := "java/lang/IllegalArgumentException") (E := "java/lang/IllegalArgumentException") hown [] ⟨0, 9, 12, 13⟩ [] hX (fun z hz => nomatch hz) rfl (by decide) (hT.use clk_L_13 rfl) (hT.use cst_IllegalArgumentException_IllegalArgumentException rfl) hce hcv hcl ?_
    refine lv_astore_n (lv' := [(3, .ref q9), (0, .ref (a 0)), (1, .int p1), (2, .ref oo)]) hx hb dL_slotAt_12 rfl hl (by decide) rfl (fun ls hl => ?_)
    refine lv_iconst (v := nI 1) hx hb dL_slotAt_13 (by decide) ?_
    exact tq_iret (v := nI 1) C rfl (ov) hP hD hS (Or.inr ⟨_, hpx, rfl, rfl⟩) (Nat.le_of_ble_eq_true rfl) (Nat.le_of_ble_eq_true rfl) dL_slotAt_14
  · refine lv_i2l (v := r.toInt64) hx hb dL_slotAt_7 rfl ?_
    refine va_last C.1 C.2.1 hK hP hD hS 18 1 rfl rfl tq_in0 dL_slotAt_8 (fun H locs hP hD hS => ?_)
    have hP : va_P D vwCl (wO cy a key val ord tk cp efi ela eco ene ldp dp dbl hlv spl mrg lfi lla lco lne lev ptr llo lhi lsp cq oo (vp_updL ov (nI 0).toNatClampNeg r.toInt64)) H := hP
    have hD : va_D A (wO cy a key val ord tk cp efi ela eco ene ldp dp dbl hlv spl mrg lfi lla lco lne lev ptr llo lhi lsp cq oo (vp_updL ov (nI 0).toNatClampNeg r.toInt64)) := hD
    refine lv_goto (tgt := 15) hx hb dL_slotAt_9 (by decide) ?_
    refine lv_iconst (v := nI 0) hx hb dL_slotAt_15 (by decide) ?_
    exact tq_iret (v := nI 0) C rfl (vp_updL ov (nI 0).toNatClampNeg r.toInt64) hP hD hS (Or.inl ⟨rfl, r, tq_out0 (f := ov), hr⟩) (Nat.le_of_ble_eq_true rfl) (Nat.le_of_ble_eq_true rfl) dL_slotAt_16
theorem dL_nextCursor_0 : decode cL_nextCursor 0 = .ok (.aload_n 2, 1) := by decide +kernel
theorem dL_nextCursor_1 : decode cL_nextCursor 1 = .ok (.iconst 0, 1) := by decide +kernel
theorem dL_nextCursor_2 : decode cL_nextCursor 2 = .ok (.aload_n 0, 1) := by decide +kernel
theorem dL_nextCursor_3 : decode cL_nextCursor 3 = .ok (.iload_n 1, 1) := by decide +kernel
theorem dL_nextCursor_4 : decode cL_nextCursor 4 = .ok (.invokevirtual 59, 3) := by decide +kernel
theorem dL_nextCursor_7 : decode cL_nextCursor 7 = .ok (.i2l, 1) := by decide +kernel
theorem dL_nextCursor_8 : decode cL_nextCursor 8 = .ok (.lastore, 1) := by decide +kernel
theorem dL_nextCursor_9 : decode cL_nextCursor 9 = .ok (.goto 6, 3) := by decide +kernel
theorem dL_nextCursor_12 : decode cL_nextCursor 12 = .ok (.astore_n 3, 1) := by decide +kernel
theorem dL_nextCursor_13 : decode cL_nextCursor 13 = .ok (.iconst 1, 1) := by decide +kernel
theorem dL_nextCursor_14 : decode cL_nextCursor 14 = .ok (.ireturn, 1) := by decide +kernel
theorem dL_nextCursor_15 : decode cL_nextCursor 15 = .ok (.iconst 0, 1) := by decide +kernel
theorem dL_nextCursor_16 : decode cL_nextCursor 16 = .ok (.ireturn, 1) := by decide +kernel
set_option maxHeartbeats 4000000 in
set_option maxRecDepth 100000 in
theorem c_L_nextCursor (l : Launch) (hl9 : l.stackTraces = false) (D : va_G) (cy cq : ClassId) (a : Nat → Nat) (key : Nat → Nat) (val : Nat → Nat) (ord : Nat → Nat) (tk : Nat) (cp : Nat) (efi : Nat → Nat) (ela : Nat → Nat) (eco : Nat → Nat) (ene : Nat → Nat) (ldp : Nat → Nat) (dp : Nat) (dbl : Int32) (hlv : Int32) (spl : Int32) (mrg : Int32) (lfi : Nat → Nat) (lla : Nat → Nat) (lco : Nat → Nat) (lne : Nat → Nat) (lev : Nat) (ptr : Nat) (llo : Nat) (lhi : Nat) (lsp : Int32) (oo : Nat) (ov : Nat → Int64) (p1 : Int32) (dep : Nat → Nat) (E L : List Nat) (hCR : CR key val ord tk cp efi ela eco ene ldp dp lfi lla lco lne lev ptr llo lhi dep E L)  : tq_L (S := (Nat → Int64)) l yL_nextCursor cL_nextCursor 4 [(0, 9, 12, 13)] 8 127 D cy cq (wO cy a key val ord tk cp efi ela eco ene ldp dp dbl hlv spl mrg lfi lla lco lne lev ptr llo lhi lsp cq oo ov) [.ref (a 0), .int p1, .ref oo] (fun k u => (k = nI 0 ∧ ∃ r : Int32, u 0 = r.toInt64 ∧ (fun r => ∃ k, k < 256 ∧ p1 = nI k ∧ r = nI (nxc (dep (k % 2 ^ dp)) k)) r) ∨ (∃ E9, (fun E9 => E9 = "java/lang/IllegalArgumentException" ∧ ¬ ∃ k : Nat, k < 256 ∧ p1 = nI k) E9 ∧ k = cod E9 ∧ u = (ov))) (fun u => (wO cy a key val ord tk cp efi ela eco ene ldp dp dbl hlv spl mrg lfi lla lco lne lev ptr llo lhi lsp cq oo u)) := by
  refine tq_L.mk (by decide) (Nat.le_of_ble_eq_true rfl) ?_
  intro p e s m args below meth c A C hX hN hP hK hD hS hA hE ls hl
  obtain ⟨hx, hb, hml, hown, hrt, hlk, hT⟩ := id C
  have hl : lv_has ls 4 [(0, .ref (a 0)), (1, .int p1), (2, .ref oo)] := hl
  have hK1 : va_K D vwCl (tq_ty cy) s := hK.sub [0] rfl
  refine lv_aload_n hx hb dL_nextCursor_0 rfl (lv_at hl 2 rfl) ?_
  refine lv_iconst (v := nI 0) hx hb dL_nextCursor_1 (by decide) ?_
  refine lv_aload_n hx hb dL_nextCursor_2 rfl (lv_at hl 0 rfl) ?_
  refine lv_iload_n hx hb dL_nextCursor_3 rfl (lv_at hl 1 rfl) ?_
  refine tq_tryF (vx_runV C.fix (As := [.int p1]) (rest := [.int (nI 0), .ref oo]) (c_X4_nextCursor l hl9 D cy a key val ord tk cp efi ela eco ene ldp dp dbl hlv spl mrg lfi lla lco lne lev ptr llo lhi lsp p1 dep E L hCR s.heap.size) (tq_cV (n := 1) C ml_L_59 im_X4_nextCursor se_X4_nextCursor ini_X4 cd_X4_nextCursor ⟨by decide, by decide, by decide +kernel⟩ ⟨Nat.le_of_ble_eq_true rfl, Nat.le_of_ble_eq_true rfl⟩) ⟨tq_Px.blind, va_recv hK hP (ci := 4) (q0 := 0) rfl rfl, tq_preX C hK1 hP hD hS hA hE [0, 1, 2, 3, 4, 5, 6, 7, 8, 9, 10, 11, 12, 13, 14, 15, 16, 17] (by decide) rfl⟩ rfl rfl hl.1 rfl (lv_room (Nat.le_of_ble_eq_true rfl)) dL_nextCursor_4 ⟨Nat.le_of_ble_eq_true rfl, Nat.le_of_ble_eq_true rfl⟩) hP hS (fun E9 ce q9 H locs hpx hP hS hce hcv hcl => ?_) (fun r hr => ?_)
  · obtain ⟨rfl, _⟩ := id hpx
    refine vx_catch (own := "TwinHashTablesLaw") (name := "java/lang/IllegalArgumentException") (E := "java/lang/IllegalArgumentException") hown [] ⟨0, 9, 12, 13⟩ [] hX (fun z hz => nomatch hz) rfl (by decide) (hT.use clk_L_13 rfl) (hT.use cst_IllegalArgumentException_IllegalArgumentException rfl) hce hcv hcl ?_
    refine lv_astore_n (lv' := [(3, .ref q9), (0, .ref (a 0)), (1, .int p1), (2, .ref oo)]) hx hb dL_nextCursor_12 rfl hl (by decide) rfl (fun ls hl => ?_)
    refine lv_iconst (v := nI 1) hx hb dL_nextCursor_13 (by decide) ?_
    exact tq_iret (v := nI 1) C rfl (ov) hP hD hS (Or.inr ⟨_, hpx, rfl, rfl⟩) (Nat.le_of_ble_eq_true rfl) (Nat.le_of_ble_eq_true rfl) dL_nextCursor_14
  · refine lv_i2l (v := r.toInt64) hx hb dL_nextCursor_7 rfl ?_
    refine va_last C.1 C.2.1 hK hP hD hS 18 1 rfl rfl tq_in0 dL_nextCursor_8 (fun H locs hP hD hS => ?_)
    have hP : va_P D vwCl (wO cy a key val ord tk cp efi ela eco ene ldp dp dbl hlv spl mrg lfi lla lco lne lev ptr llo lhi lsp cq oo (vp_updL ov (nI 0).toNatClampNeg r.toInt64)) H := hP
    have hD : va_D A (wO cy a key val ord tk cp efi ela eco ene ldp dp dbl hlv spl mrg lfi lla lco lne lev ptr llo lhi lsp cq oo (vp_updL ov (nI 0).toNatClampNeg r.toInt64)) := hD
    refine lv_goto (tgt := 15) hx hb dL_nextCursor_9 (by decide) ?_
    refine lv_iconst (v := nI 0) hx hb dL_nextCursor_15 (by decide) ?_
    exact tq_iret (v := nI 0) C rfl (vp_updL ov (nI 0).toNatClampNeg r.toInt64) hP hD hS (Or.inl ⟨rfl, r, tq_out0 (f := ov), hr⟩) (Nat.le_of_ble_eq_true rfl) (Nat.le_of_ble_eq_true rfl) dL_nextCursor_16
theorem dL_linearSize_0 : decode cL_linearSize 0 = .ok (.aload_n 2, 1) := by decide +kernel
theorem dL_linearSize_1 : decode cL_linearSize 1 = .ok (.iconst 0, 1) := by decide +kernel
theorem dL_linearSize_2 : decode cL_linearSize 2 = .ok (.aload_n 0, 1) := by decide +kernel
theorem dL_linearSize_3 : decode cL_linearSize 3 = .ok (.iload_n 1, 1) := by decide +kernel
theorem dL_linearSize_4 : decode cL_linearSize 4 = .ok (.invokevirtual 62, 3) := by decide +kernel
theorem dL_linearSize_7 : decode cL_linearSize 7 = .ok (.i2l, 1) := by decide +kernel
theorem dL_linearSize_8 : decode cL_linearSize 8 = .ok (.lastore, 1) := by decide +kernel
theorem dL_linearSize_9 : decode cL_linearSize 9 = .ok (.goto 6, 3) := by decide +kernel
theorem dL_linearSize_12 : decode cL_linearSize 12 = .ok (.astore_n 3, 1) := by decide +kernel
theorem dL_linearSize_13 : decode cL_linearSize 13 = .ok (.iconst 1, 1) := by decide +kernel
theorem dL_linearSize_14 : decode cL_linearSize 14 = .ok (.ireturn, 1) := by decide +kernel
theorem dL_linearSize_15 : decode cL_linearSize 15 = .ok (.iconst 0, 1) := by decide +kernel
theorem dL_linearSize_16 : decode cL_linearSize 16 = .ok (.ireturn, 1) := by decide +kernel
set_option maxHeartbeats 4000000 in
set_option maxRecDepth 100000 in
theorem c_L_linearSize (l : Launch) (hl9 : l.stackTraces = false) (D : va_G) (cy cq : ClassId) (a : Nat → Nat) (key : Nat → Nat) (val : Nat → Nat) (ord : Nat → Nat) (tk : Nat) (cp : Nat) (efi : Nat → Nat) (ela : Nat → Nat) (eco : Nat → Nat) (ene : Nat → Nat) (ldp : Nat → Nat) (dp : Nat) (dbl : Int32) (hlv : Int32) (spl : Int32) (mrg : Int32) (lfi : Nat → Nat) (lla : Nat → Nat) (lco : Nat → Nat) (lne : Nat → Nat) (lev : Nat) (ptr : Nat) (llo : Nat) (lhi : Nat) (lsp : Int32) (oo : Nat) (ov : Nat → Int64) (p1 : Int32) (dep : Nat → Nat) (E L : List Nat) (hCR : CR key val ord tk cp efi ela eco ene ldp dp lfi lla lco lne lev ptr llo lhi dep E L)  : tq_L (S := (Nat → Int64)) l yL_linearSize cL_linearSize 4 [(0, 9, 12, 39)] 8 124 D cy cq (wO cy a key val ord tk cp efi ela eco ene ldp dp dbl hlv spl mrg lfi lla lco lne lev ptr llo lhi lsp cq oo ov) [.ref (a 0), .int p1, .ref oo] (fun k u => (k = nI 0 ∧ ∃ r : Int32, u 0 = r.toInt64 ∧ (fun r => ∃ k, k < 2 ^ lev + ptr ∧ p1 = nI k ∧ r = nI (lnB L lev ptr k).length) r) ∨ (∃ E9, (fun E9 => E9 = "java/lang/IndexOutOfBoundsException" ∧ ¬ ∃ k : Nat, k < 2 ^ lev + ptr ∧ p1 = nI k) E9 ∧ k = cod E9 ∧ u = (ov))) (fun u => (wO cy a key val ord tk cp efi ela eco ene ldp dp dbl hlv spl mrg lfi lla lco lne lev ptr llo lhi lsp cq oo u)) := by
  refine tq_L.mk (by decide) (Nat.le_of_ble_eq_true rfl) ?_
  intro p e s m args below meth c A C hX hN hP hK hD hS hA hE ls hl
  obtain ⟨hx, hb, hml, hown, hrt, hlk, hT⟩ := id C
  have hl : lv_has ls 4 [(0, .ref (a 0)), (1, .int p1), (2, .ref oo)] := hl
  have hK1 : va_K D vwCl (tq_ty cy) s := hK.sub [0] rfl
  refine lv_aload_n hx hb dL_linearSize_0 rfl (lv_at hl 2 rfl) ?_
  refine lv_iconst (v := nI 0) hx hb dL_linearSize_1 (by decide) ?_
  refine lv_aload_n hx hb dL_linearSize_2 rfl (lv_at hl 0 rfl) ?_
  refine lv_iload_n hx hb dL_linearSize_3 rfl (lv_at hl 1 rfl) ?_
  refine tq_tryF (vx_runV C.fix (As := [.int p1]) (rest := [.int (nI 0), .ref oo]) (c_X4_linearSize l hl9 D cy a key val ord tk cp efi ela eco ene ldp dp dbl hlv spl mrg lfi lla lco lne lev ptr llo lhi lsp p1 dep E L hCR s.heap.size) (tq_cV (n := 1) C ml_L_62 im_X4_linearSize se_X4_linearSize ini_X4 cd_X4_linearSize ⟨by decide, by decide, by decide +kernel⟩ ⟨Nat.le_of_ble_eq_true rfl, Nat.le_of_ble_eq_true rfl⟩) ⟨tq_Px.blind, va_recv hK hP (ci := 4) (q0 := 0) rfl rfl, tq_preX C hK1 hP hD hS hA hE [0, 1, 2, 3, 4, 5, 6, 7, 8, 9, 10, 11, 12, 13, 14, 15, 16, 17] (by decide) rfl⟩ rfl rfl hl.1 rfl (lv_room (Nat.le_of_ble_eq_true rfl)) dL_linearSize_4 ⟨Nat.le_of_ble_eq_true rfl, Nat.le_of_ble_eq_true rfl⟩) hP hS (fun E9 ce q9 H locs hpx hP hS hce hcv hcl => ?_) (fun r hr => ?_)
  · obtain ⟨rfl, _⟩ := id hpx
    refine vx_catch (own := "TwinHashTablesLaw") (name := "java/lang/IndexOutOfBoundsException") (E := "java/lang/IndexOutOfBoundsException") hown [] ⟨0, 9, 12, 39⟩ [] hX (fun z hz => nomatch hz) rfl (by decide) (hT.use clk_L_39 rfl) (hT.use cst_IndexOutOfBoundsException_IndexOutOfBoundsException rfl) hce hcv hcl ?_
    refine lv_astore_n (lv' := [(3, .ref q9), (0, .ref (a 0)), (1, .int p1), (2, .ref oo)]) hx hb dL_linearSize_12 rfl hl (by decide) rfl (fun ls hl => ?_)
    refine lv_iconst (v := nI 1) hx hb dL_linearSize_13 (by decide) ?_
    exact tq_iret (v := nI 1) C rfl (ov) hP hD hS (Or.inr ⟨_, hpx, rfl, rfl⟩) (Nat.le_of_ble_eq_true rfl) (Nat.le_of_ble_eq_true rfl) dL_linearSize_14
  · refine lv_i2l (v := r.toInt64) hx hb dL_linearSize_7 rfl ?_
    refine va_last C.1 C.2.1 hK hP hD hS 18 1 rfl rfl tq_in0 dL_linearSize_8 (fun H locs hP hD hS => ?_)
    have hP : va_P D vwCl (wO cy a key val ord tk cp efi ela eco ene ldp dp dbl hlv spl mrg lfi lla lco lne lev ptr llo lhi lsp cq oo (vp_updL ov (nI 0).toNatClampNeg r.toInt64)) H := hP
    have hD : va_D A (wO cy a key val ord tk cp efi ela eco ene ldp dp dbl hlv spl mrg lfi lla lco lne lev ptr llo lhi lsp cq oo (vp_updL ov (nI 0).toNatClampNeg r.toInt64)) := hD
    refine lv_goto (tgt := 15) hx hb dL_linearSize_9 (by decide) ?_
    refine lv_iconst (v := nI 0) hx hb dL_linearSize_15 (by decide) ?_
    exact tq_iret (v := nI 0) C rfl (vp_updL ov (nI 0).toNatClampNeg r.toInt64) hP hD hS (Or.inl ⟨rfl, r, tq_out0 (f := ov), hr⟩) (Nat.le_of_ble_eq_true rfl) (Nat.le_of_ble_eq_true rfl) dL_linearSize_16
theorem dL_linearKeyAt_0 : decode cL_linearKeyAt 0 = .ok (.aload_n 3, 1) := by decide +kernel
theorem dL_linearKeyAt_1 : decode cL_linearKeyAt 1 = .ok (.iconst 0, 1) := by decide +kernel
theorem dL_linearKeyAt_2 : decode cL_linearKeyAt 2 = .ok (.aload_n 0, 1) := by decide +kernel
theorem dL_linearKeyAt_3 : decode cL_linearKeyAt 3 = .ok (.iload_n 1, 1) := by decide +kernel
theorem dL_linearKeyAt_4 : decode cL_linearKeyAt 4 = .ok (.iload_n 2, 1) := by decide +kernel
theorem dL_linearKeyAt_5 : decode cL_linearKeyAt 5 = .ok (.invokevirtual 65, 3) := by decide +kernel
theorem dL_linearKeyAt_8 : decode cL_linearKeyAt 8 = .ok (.i2l, 1) := by decide +kernel
theorem dL_linearKeyAt_9 : decode cL_linearKeyAt 9 = .ok (.lastore, 1) := by decide +kernel
theorem dL_linearKeyAt_10 : decode cL_linearKeyAt 10 = .ok (.goto 7, 3) := by decide +kernel
theorem dL_linearKeyAt_13 : decode cL_linearKeyAt 13 = .ok (.astore 4, 2) := by decide +kernel
theorem dL_linearKeyAt_15 : decode cL_linearKeyAt 15 = .ok (.iconst 1, 1) := by decide +kernel
theorem dL_linearKeyAt_16 : decode cL_linearKeyAt 16 = .ok (.ireturn, 1) := by decide +kernel
theorem dL_linearKeyAt_17 : decode cL_linearKeyAt 17 = .ok (.iconst 0, 1) := by decide +kernel
theorem dL_linearKeyAt_18 : decode cL_linearKeyAt 18 = .ok (.ireturn, 1) := by decide +kernel
set_option maxHeartbeats 4000000 in
set_option maxRecDepth 100000 in
theorem c_L_linearKeyAt (l : Launch) (hl9 : l.stackTraces = false) (D : va_G) (cy cq : ClassId) (a : Nat → Nat) (key : Nat → Nat) (val : Nat → Nat) (ord : Nat → Nat) (tk : Nat) (cp : Nat) (efi : Nat → Nat) (ela : Nat → Nat) (eco : Nat → Nat) (ene : Nat → Nat) (ldp : Nat → Nat) (dp : Nat) (dbl : Int32) (hlv : Int32) (spl : Int32) (mrg : Int32) (lfi : Nat → Nat) (lla : Nat → Nat) (lco : Nat → Nat) (lne : Nat → Nat) (lev : Nat) (ptr : Nat) (llo : Nat) (lhi : Nat) (lsp : Int32) (oo : Nat) (ov : Nat → Int64) (p1 : Int32) (p2 : Int32) (dep : Nat → Nat) (E L : List Nat) (hCR : CR key val ord tk cp efi ela eco ene ldp dp lfi lla lco lne lev ptr llo lhi dep E L)  : tq_L (S := (Nat → Int64)) l yL_linearKeyAt cL_linearKeyAt 5 [(0, 10, 13, 39)] 9 148 D cy cq (wO cy a key val ord tk cp efi ela eco ene ldp dp dbl hlv spl mrg lfi lla lco lne lev ptr llo lhi lsp cq oo ov) [.ref (a 0), .int p1, .int p2, .ref oo] (fun k u => (k = nI 0 ∧ ∃ r : Int32, u 0 = r.toInt64 ∧ (fun r => ∃ k, k < 2 ^ lev + ptr ∧ p1 = nI k ∧ ∃ p, p < (lnB L lev ptr k).length ∧ p2 = nI p ∧ r = nI ((lnB L lev ptr k).getD p 0)) r) ∨ (∃ E9, (fun E9 => E9 = "java/lang/IndexOutOfBoundsException" ∧ ¬ ∃ k p : Nat, k < 2 ^ lev + ptr ∧ p1 = nI k ∧ p < (lnB L lev ptr k).length ∧ p2 = nI p) E9 ∧ k = cod E9 ∧ u = (ov))) (fun u => (wO cy a key val ord tk cp efi ela eco ene ldp dp dbl hlv spl mrg lfi lla lco lne lev ptr llo lhi lsp cq oo u)) := by
  refine tq_L.mk (by decide) (Nat.le_of_ble_eq_true rfl) ?_
  intro p e s m args below meth c A C hX hN hP hK hD hS hA hE ls hl
  obtain ⟨hx, hb, hml, hown, hrt, hlk, hT⟩ := id C
  have hl : lv_has ls 5 [(0, .ref (a 0)), (1, .int p1), (2, .int p2), (3, .ref oo)] := hl
  have hK1 : va_K D vwCl (tq_ty cy) s := hK.sub [0] rfl
  refine lv_aload_n hx hb dL_linearKeyAt_0 rfl (lv_at hl 3 rfl) ?_
  refine lv_iconst (v := nI 0) hx hb dL_linearKeyAt_1 (by decide) ?_
  refine lv_aload_n hx hb dL_linearKeyAt_2 rfl (lv_at hl 0 rfl) ?_
  refine lv_iload_n hx hb dL_linearKeyAt_3 rfl (lv_at hl 1 rfl) ?_
  refine lv_iload_n hx hb dL_linearKeyAt_4 rfl (lv_at hl 2 rfl) ?_
  refine tq_tryF (vx_runV C.fix (As := [.int p1, .int p2]) (rest := [.int (nI 0), .ref oo]) (c_X4_linearKeyAt l hl9 D cy a key val ord tk cp efi ela eco ene ldp dp dbl hlv spl mrg lfi lla lco lne lev ptr llo lhi lsp p1 p2 dep E L hCR s.heap.size) (tq_cV (n := 2) C ml_L_65 im_X4_linearKeyAt se_X4_linearKeyAt ini_X4 cd_X4_linearKeyAt ⟨by decide, by decide, by decide +kernel⟩ ⟨Nat.le_of_ble_eq_true rfl, Nat.le_of_ble_eq_true rfl⟩) ⟨tq_Px.blind, va_recv hK hP (ci := 4) (q0 := 0) rfl rfl, tq_preX C hK1 hP hD hS hA hE [0, 1, 2, 3, 4, 5, 6, 7, 8, 9, 10, 11, 12, 13, 14, 15, 16, 17] (by decide) rfl⟩ rfl rfl hl.1 rfl (lv_room (Nat.le_of_ble_eq_true rfl)) dL_linearKeyAt_5 ⟨Nat.le_of_ble_eq_true rfl, Nat.le_of_ble_eq_true rfl⟩) hP hS (fun E9 ce q9 H locs hpx hP hS hce hcv hcl => ?_) (fun r hr => ?_)
  · obtain ⟨rfl, _⟩ := id hpx
    refine vx_catch (own := "TwinHashTablesLaw") (name := "java/lang/IndexOutOfBoundsException") (E := "java/lang/IndexOutOfBoundsException") hown [] ⟨0, 10, 13, 39⟩ [] hX (fun z hz => nomatch hz) rfl (by decide) (hT.use clk_L_39 rfl) (hT.use cst_IndexOutOfBoundsException_IndexOutOfBoundsException rfl) hce hcv hcl ?_
    refine lv_astore (lv' := [(4, .ref q9), (0, .ref (a 0)), (1, .int p1), (2, .int p2), (3, .ref oo)]) hx hb dL_linearKeyAt_13 hl (by decide) rfl (fun ls hl => ?_)
    refine lv_iconst (v := nI 1) hx hb dL_linearKeyAt_15 (by decide) ?_
    exact tq_iret (v := nI 1) C rfl (ov) hP hD hS (Or.inr ⟨_, hpx, rfl, rfl⟩) (Nat.le_of_ble_eq_true rfl) (Nat.le_of_ble_eq_true rfl) dL_linearKeyAt_16
  · refine lv_i2l (v := r.toInt64) hx hb dL_linearKeyAt_8 rfl ?_
    refine va_last C.1 C.2.1 hK hP hD hS 18 1 rfl rfl tq_in0 dL_linearKeyAt_9 (fun H locs hP hD hS => ?_)
    have hP : va_P D vwCl (wO cy a key val ord tk cp efi ela eco ene ldp dp dbl hlv spl mrg lfi lla lco lne lev ptr llo lhi lsp cq oo (vp_updL ov (nI 0).toNatClampNeg r.toInt64)) H := hP
    have hD : va_D A (wO cy a key val ord tk cp efi ela eco ene ldp dp dbl hlv spl mrg lfi lla lco lne lev ptr llo lhi lsp cq oo (vp_updL ov (nI 0).toNatClampNeg r.toInt64)) := hD
    refine lv_goto (tgt := 17) hx hb dL_linearKeyAt_10 (by decide) ?_
    refine lv_iconst (v := nI 0) hx hb dL_linearKeyAt_17 (by decide) ?_
    exact tq_iret (v := nI 0) C rfl (vp_updL ov (nI 0).toNatClampNeg r.toInt64) hP hD hS (Or.inl ⟨rfl, r, tq_out0 (f := ov), hr⟩) (Nat.le_of_ble_eq_true rfl) (Nat.le_of_ble_eq_true rfl) dL_linearKeyAt_18
theorem dL_linearBucketOf_0 : decode cL_linearBucketOf 0 = .ok (.aload_n 2, 1) := by decide +kernel
theorem dL_linearBucketOf_1 : decode cL_linearBucketOf 1 = .ok (.iconst 0, 1) := by decide +kernel
theorem dL_linearBucketOf_2 : decode cL_linearBucketOf 2 = .ok (.aload_n 0, 1) := by decide +kernel
theorem dL_linearBucketOf_3 : decode cL_linearBucketOf 3 = .ok (.iload_n 1, 1) := by decide +kernel
theorem dL_linearBucketOf_4 : decode cL_linearBucketOf 4 = .ok (.invokevirtual 68, 3) := by decide +kernel
theorem dL_linearBucketOf_7 : decode cL_linearBucketOf 7 = .ok (.i2l, 1) := by decide +kernel
theorem dL_linearBucketOf_8 : decode cL_linearBucketOf 8 = .ok (.lastore, 1) := by decide +kernel
theorem dL_linearBucketOf_9 : decode cL_linearBucketOf 9 = .ok (.goto 6, 3) := by decide +kernel
theorem dL_linearBucketOf_12 : decode cL_linearBucketOf 12 = .ok (.astore_n 3, 1) := by decide +kernel
theorem dL_linearBucketOf_13 : decode cL_linearBucketOf 13 = .ok (.iconst 1, 1) := by decide +kernel
theorem dL_linearBucketOf_14 : decode cL_linearBucketOf 14 = .ok (.ireturn, 1) := by decide +kernel
theorem dL_linearBucketOf_15 : decode cL_linearBucketOf 15 = .ok (.iconst 0, 1) := by decide +kernel
theorem dL_linearBucketOf_16 : decode cL_linearBucketOf 16 = .ok (.ireturn, 1) := by decide +kernel
set_option maxHeartbeats 4000000 in
set_option maxRecDepth 100000 in
theorem c_L_linearBucketOf (l : Launch) (hl9 : l.stackTraces = false) (D : va_G) (cy cq : ClassId) (a : Nat → Nat) (key : Nat → Nat) (val : Nat → Nat) (ord : Nat → Nat) (tk : Nat) (cp : Nat) (efi : Nat → Nat) (ela : Nat → Nat) (eco : Nat → Nat) (ene : Nat → Nat) (ldp : Nat → Nat) (dp : Nat) (dbl : Int32) (hlv : Int32) (spl : Int32) (mrg : Int32) (lfi : Nat → Nat) (lla : Nat → Nat) (lco : Nat → Nat) (lne : Nat → Nat) (lev : Nat) (ptr : Nat) (llo : Nat) (lhi : Nat) (lsp : Int32) (oo : Nat) (ov : Nat → Int64) (p1 : Int32) (dep : Nat → Nat) (E L : List Nat) (hCR : CR key val ord tk cp efi ela eco ene ldp dp lfi lla lco lne lev ptr llo lhi dep E L)  : tq_L (S := (Nat → Int64)) l yL_linearBucketOf cL_linearBucketOf 4 [(0, 9, 12, 13)] 9 145 D cy cq (wO cy a key val ord tk cp efi ela eco ene ldp dp dbl hlv spl mrg lfi lla lco lne lev ptr llo lhi lsp cq oo ov) [.ref (a 0), .int p1, .ref oo] (fun k u => (k = nI 0 ∧ ∃ r : Int32, u 0 = r.toInt64 ∧ (fun r => ∃ k, k < 65536 ∧ p1 = nI k ∧ r = nI (linOf lev ptr k)) r) ∨ (∃ E9, (fun E9 => E9 = "java/lang/IllegalArgumentException" ∧ ¬ isKey p1) E9 ∧ k = cod E9 ∧ u = (ov))) (fun u => (wO cy a key val ord tk cp efi ela eco ene ldp dp dbl hlv spl mrg lfi lla lco lne lev ptr llo lhi lsp cq oo u)) := by
  refine tq_L.mk (by decide) (Nat.le_of_ble_eq_true rfl) ?_
  intro p e s m args below meth c A C hX hN hP hK hD hS hA hE ls hl
  obtain ⟨hx, hb, hml, hown, hrt, hlk, hT⟩ := id C
  have hl : lv_has ls 4 [(0, .ref (a 0)), (1, .int p1), (2, .ref oo)] := hl
  have hK1 : va_K D vwCl (tq_ty cy) s := hK.sub [0] rfl
  refine lv_aload_n hx hb dL_linearBucketOf_0 rfl (lv_at hl 2 rfl) ?_
  refine lv_iconst (v := nI 0) hx hb dL_linearBucketOf_1 (by decide) ?_
  refine lv_aload_n hx hb dL_linearBucketOf_2 rfl (lv_at hl 0 rfl) ?_
  refine lv_iload_n hx hb dL_linearBucketOf_3 rfl (lv_at hl 1 rfl) ?_
  refine tq_tryF (vx_runV C.fix (As := [.int p1]) (rest := [.int (nI 0), .ref oo]) (c_X4_linearBucketOf l hl9 D cy a key val ord tk cp efi ela eco ene ldp dp dbl hlv spl mrg lfi lla lco lne lev ptr llo lhi lsp p1 dep E L hCR s.heap.size) (tq_cV (n := 1) C ml_L_68 im_X4_linearBucketOf se_X4_linearBucketOf ini_X4 cd_X4_linearBucketOf ⟨by decide, by decide, by decide +kernel⟩ ⟨Nat.le_of_ble_eq_true rfl, Nat.le_of_ble_eq_true rfl⟩) ⟨tq_Px.blind, va_recv hK hP (ci := 4) (q0 := 0) rfl rfl, tq_preX C hK1 hP hD hS hA hE [0, 1, 2, 3, 4, 5, 6, 7, 8, 9, 10, 11, 12, 13, 14, 15, 16, 17] (by decide) rfl⟩ rfl rfl hl.1 rfl (lv_room (Nat.le_of_ble_eq_true rfl)) dL_linearBucketOf_4 ⟨Nat.le_of_ble_eq_true rfl, Nat.le_of_ble_eq_true rfl⟩) hP hS (fun E9 ce q9 H locs hpx hP hS hce hcv hcl => ?_) (fun r hr => ?_)
  · obtain ⟨rfl, _⟩ := id hpx
    refine vx_catch (own := "TwinHashTablesLaw") (name := "java/lang/IllegalArgumentException") (E := "java/lang/IllegalArgumentException") hown [] ⟨0, 9, 12, 13⟩ [] hX (fun z hz => nomatch hz) rfl (by decide) (hT.use clk_L_13 rfl) (hT.use cst_IllegalArgumentException_IllegalArgumentException rfl) hce hcv hcl ?_
    refine lv_astore_n (lv' := [(3, .ref q9), (0, .ref (a 0)), (1, .int p1), (2, .ref oo)]) hx hb dL_linearBucketOf_12 rfl hl (by decide) rfl (fun ls hl => ?_)
    refine lv_iconst (v := nI 1) hx hb dL_linearBucketOf_13 (by decide) ?_
    exact tq_iret (v := nI 1) C rfl (ov) hP hD hS (Or.inr ⟨_, hpx, rfl, rfl⟩) (Nat.le_of_ble_eq_true rfl) (Nat.le_of_ble_eq_true rfl) dL_linearBucketOf_14
  · refine lv_i2l (v := r.toInt64) hx hb dL_linearBucketOf_7 rfl ?_
    refine va_last C.1 C.2.1 hK hP hD hS 18 1 rfl rfl tq_in0 dL_linearBucketOf_8 (fun H locs hP hD hS => ?_)
    have hP : va_P D vwCl (wO cy a key val ord tk cp efi ela eco ene ldp dp dbl hlv spl mrg lfi lla lco lne lev ptr llo lhi lsp cq oo (vp_updL ov (nI 0).toNatClampNeg r.toInt64)) H := hP
    have hD : va_D A (wO cy a key val ord tk cp efi ela eco ene ldp dp dbl hlv spl mrg lfi lla lco lne lev ptr llo lhi lsp cq oo (vp_updL ov (nI 0).toNatClampNeg r.toInt64)) := hD
    refine lv_goto (tgt := 15) hx hb dL_linearBucketOf_9 (by decide) ?_
    refine lv_iconst (v := nI 0) hx hb dL_linearBucketOf_15 (by decide) ?_
    exact tq_iret (v := nI 0) C rfl (vp_updL ov (nI 0).toNatClampNeg r.toInt64) hP hD hS (Or.inl ⟨rfl, r, tq_out0 (f := ov), hr⟩) (Nat.le_of_ble_eq_true rfl) (Nat.le_of_ble_eq_true rfl) dL_linearBucketOf_16
theorem dL_linearProbes_0 : decode cL_linearProbes 0 = .ok (.aload_n 2, 1) := by decide +kernel
theorem dL_linearProbes_1 : decode cL_linearProbes 1 = .ok (.iconst 0, 1) := by decide +kernel
theorem dL_linearProbes_2 : decode cL_linearProbes 2 = .ok (.aload_n 0, 1) := by decide +kernel
theorem dL_linearProbes_3 : decode cL_linearProbes 3 = .ok (.iload_n 1, 1) := by decide +kernel
theorem dL_linearProbes_4 : decode cL_linearProbes 4 = .ok (.invokevirtual 71, 3) := by decide +kernel
theorem dL_linearProbes_7 : decode cL_linearProbes 7 = .ok (.i2l, 1) := by decide +kernel
theorem dL_linearProbes_8 : decode cL_linearProbes 8 = .ok (.lastore, 1) := by decide +kernel
theorem dL_linearProbes_9 : decode cL_linearProbes 9 = .ok (.goto 6, 3) := by decide +kernel
theorem dL_linearProbes_12 : decode cL_linearProbes 12 = .ok (.astore_n 3, 1) := by decide +kernel
theorem dL_linearProbes_13 : decode cL_linearProbes 13 = .ok (.iconst 1, 1) := by decide +kernel
theorem dL_linearProbes_14 : decode cL_linearProbes 14 = .ok (.ireturn, 1) := by decide +kernel
theorem dL_linearProbes_15 : decode cL_linearProbes 15 = .ok (.iconst 0, 1) := by decide +kernel
theorem dL_linearProbes_16 : decode cL_linearProbes 16 = .ok (.ireturn, 1) := by decide +kernel
set_option maxHeartbeats 4000000 in
set_option maxRecDepth 100000 in
theorem c_L_linearProbes (l : Launch) (hl9 : l.stackTraces = false) (D : va_G) (cy cq : ClassId) (a : Nat → Nat) (key : Nat → Nat) (val : Nat → Nat) (ord : Nat → Nat) (tk : Nat) (cp : Nat) (efi : Nat → Nat) (ela : Nat → Nat) (eco : Nat → Nat) (ene : Nat → Nat) (ldp : Nat → Nat) (dp : Nat) (dbl : Int32) (hlv : Int32) (spl : Int32) (mrg : Int32) (lfi : Nat → Nat) (lla : Nat → Nat) (lco : Nat → Nat) (lne : Nat → Nat) (lev : Nat) (ptr : Nat) (llo : Nat) (lhi : Nat) (lsp : Int32) (oo : Nat) (ov : Nat → Int64) (p1 : Int32) (dep : Nat → Nat) (E L : List Nat) (hCR : CR key val ord tk cp efi ela eco ene ldp dp lfi lla lco lne lev ptr llo lhi dep E L)  : tq_L (S := (Nat → Int64)) l yL_linearProbes cL_linearProbes 4 [(0, 9, 12, 13)] 9 145 D cy cq (wO cy a key val ord tk cp efi ela eco ene ldp dp dbl hlv spl mrg lfi lla lco lne lev ptr llo lhi lsp cq oo ov) [.ref (a 0), .int p1, .ref oo] (fun k u => (k = nI 0 ∧ ∃ r : Int32, u 0 = r.toInt64 ∧ (fun r => ∃ k, k < 65536 ∧ p1 = nI k ∧ prP (lnB L lev ptr (linOf lev ptr k)) cp k r) r) ∨ (∃ E9, (fun E9 => E9 = "java/lang/IllegalArgumentException" ∧ ¬ isKey p1) E9 ∧ k = cod E9 ∧ u = (ov))) (fun u => (wO cy a key val ord tk cp efi ela eco ene ldp dp dbl hlv spl mrg lfi lla lco lne lev ptr llo lhi lsp cq oo u)) := by
  refine tq_L.mk (by decide) (Nat.le_of_ble_eq_true rfl) ?_
  intro p e s m args below meth c A C hX hN hP hK hD hS hA hE ls hl
  obtain ⟨hx, hb, hml, hown, hrt, hlk, hT⟩ := id C
  have hl : lv_has ls 4 [(0, .ref (a 0)), (1, .int p1), (2, .ref oo)] := hl
  have hK1 : va_K D vwCl (tq_ty cy) s := hK.sub [0] rfl
  refine lv_aload_n hx hb dL_linearProbes_0 rfl (lv_at hl 2 rfl) ?_
  refine lv_iconst (v := nI 0) hx hb dL_linearProbes_1 (by decide) ?_
  refine lv_aload_n hx hb dL_linearProbes_2 rfl (lv_at hl 0 rfl) ?_
  refine lv_iload_n hx hb dL_linearProbes_3 rfl (lv_at hl 1 rfl) ?_
  refine tq_tryF (vx_runV C.fix (As := [.int p1]) (rest := [.int (nI 0), .ref oo]) (c_X4_linearProbes l hl9 D cy a key val ord tk cp efi ela eco ene ldp dp dbl hlv spl mrg lfi lla lco lne lev ptr llo lhi lsp p1 dep E L hCR s.heap.size) (tq_cV (n := 1) C ml_L_71 im_X4_linearProbes se_X4_linearProbes ini_X4 cd_X4_linearProbes ⟨by decide, by decide, by decide +kernel⟩ ⟨Nat.le_of_ble_eq_true rfl, Nat.le_of_ble_eq_true rfl⟩) ⟨tq_Px.blind, va_recv hK hP (ci := 4) (q0 := 0) rfl rfl, tq_preX C hK1 hP hD hS hA hE [0, 1, 2, 3, 4, 5, 6, 7, 8, 9, 10, 11, 12, 13, 14, 15, 16, 17] (by decide) rfl⟩ rfl rfl hl.1 rfl (lv_room (Nat.le_of_ble_eq_true rfl)) dL_linearProbes_4 ⟨Nat.le_of_ble_eq_true rfl, Nat.le_of_ble_eq_true rfl⟩) hP hS (fun E9 ce q9 H locs hpx hP hS hce hcv hcl => ?_) (fun r hr => ?_)
  · obtain ⟨rfl, _⟩ := id hpx
    refine vx_catch (own := "TwinHashTablesLaw") (name := "java/lang/IllegalArgumentException") (E := "java/lang/IllegalArgumentException") hown [] ⟨0, 9, 12, 13⟩ [] hX (fun z hz => nomatch hz) rfl (by decide) (hT.use clk_L_13 rfl) (hT.use cst_IllegalArgumentException_IllegalArgumentException rfl) hce hcv hcl ?_
    refine lv_astore_n (lv' := [(3, .ref q9), (0, .ref (a 0)), (1, .int p1), (2, .ref oo)]) hx hb dL_linearProbes_12 rfl hl (by decide) rfl (fun ls hl => ?_)
    refine lv_iconst (v := nI 1) hx hb dL_linearProbes_13 (by decide) ?_
    exact tq_iret (v := nI 1) C rfl (ov) hP hD hS (Or.inr ⟨_, hpx, rfl, rfl⟩) (Nat.le_of_ble_eq_true rfl) (Nat.le_of_ble_eq_true rfl) dL_linearProbes_14
  · refine lv_i2l (v := r.toInt64) hx hb dL_linearProbes_7 rfl ?_
    refine va_last C.1 C.2.1 hK hP hD hS 18 1 rfl rfl tq_in0 dL_linearProbes_8 (fun H locs hP hD hS => ?_)
    have hP : va_P D vwCl (wO cy a key val ord tk cp efi ela eco ene ldp dp dbl hlv spl mrg lfi lla lco lne lev ptr llo lhi lsp cq oo (vp_updL ov (nI 0).toNatClampNeg r.toInt64)) H := hP
    have hD : va_D A (wO cy a key val ord tk cp efi ela eco ene ldp dp dbl hlv spl mrg lfi lla lco lne lev ptr llo lhi lsp cq oo (vp_updL ov (nI 0).toNatClampNeg r.toInt64)) := hD
    refine lv_goto (tgt := 15) hx hb dL_linearProbes_9 (by decide) ?_
    refine lv_iconst (v := nI 0) hx hb dL_linearProbes_15 (by decide) ?_
    exact tq_iret (v := nI 0) C rfl (vp_updL ov (nI 0).toNatClampNeg r.toInt64) hP hD hS (Or.inl ⟨rfl, r, tq_out0 (f := ov), hr⟩) (Nat.le_of_ble_eq_true rfl) (Nat.le_of_ble_eq_true rfl) dL_linearProbes_16
