
def wZ (cy : ClassId) (a : Nat → Nat) (key : Nat → Nat) (val : Nat → Nat) (ord : Nat → Nat) (tk : Nat) (cp : Nat) (efi : Nat → Nat) (ela : Nat → Nat) (eco : Nat → Nat) (ene : Nat → Nat) (ldp : Nat → Nat) (dp : Nat) (dbl : Int32) (hlv : Int32) (spl : Int32) (mrg : Int32) (lfi : Nat → Nat) (lla : Nat → Nat) (lco : Nat → Nat) (lne : Nat → Nat) (lev : Nat) (ptr : Nat) (llo : Nat) (lhi : Nat) (lsp : Int32) (bb : Nat → Nat) (sto : Nat → Nat) (vas : Nat → Nat) (sz : Nat) (cap : Nat) (low : Nat) (hig : Nat) (dpt : Nat → Nat) (glo : Nat) (ext : Nat → Nat) (mdb : Int32) (mhl : Int32) (msp : Int32) (mmg : Int32) (lin : Nat → Nat) (mlv : Nat) (mpt : Nat) (mls : Int32) (mov : Nat → Nat) (thr : Nat) (cq : ClassId) (oo : Nat) (ov : Nat → Int64) : va_W := [
  (a 0, .inr (4, [.ref (a 1), .ref (a 2), .ref (a 3)])),
  (a 1, .inr (3, [.ref (a 4), .ref (a 5), .ref (a 6), .int (nI (tk)), .int (nI (cp))])),
  (a 2, .inr (0, [.ref (a 1), .ref (a 7), .ref (a 8), .int (nI (dp)), .int (dbl), .int (hlv), .int (spl), .int (mrg)])),
  (a 3, .inr (1, [.ref (a 1), .ref (a 9), .int (nI (lev)), .int (nI (ptr)), .int (nI (llo)), .int (nI (lhi)), .int (lsp)])),
  (a 4, .inl (cy, 121, .inl (fun j => nI (key j)))),
  (a 5, .inl (cy, 121, .inl (fun j => nI (val j)))),
  (a 6, .inl (cy, 120, .inl (fun j => nI (ord j)))),
  (a 7, .inr (2, [.ref (a 1), .ref (a 10), .ref (a 11), .ref (a 12), .ref (a 13)])),
  (a 8, .inl (cy, 256, .inl (fun j => nI (ldp j)))),
  (a 9, .inr (2, [.ref (a 1), .ref (a 14), .ref (a 15), .ref (a 16), .ref (a 17)])),
  (a 10, .inl (cy, 256, .inl (fun j => nI (efi j)))),
  (a 11, .inl (cy, 256, .inl (fun j => nI (ela j)))),
  (a 12, .inl (cy, 256, .inl (fun j => nI (eco j)))),
  (a 13, .inl (cy, 121, .inl (fun j => nI (ene j)))),
  (a 14, .inl (cy, 256, .inl (fun j => nI (lfi j)))),
  (a 15, .inl (cy, 256, .inl (fun j => nI (lla j)))),
  (a 16, .inl (cy, 256, .inl (fun j => nI (lco j)))),
  (a 17, .inl (cy, 121, .inl (fun j => nI (lne j)))),
  (bb 0, .inr (5, [.ref (bb 1), .ref (bb 2), .int (nI (sz)), .int (nI (cap)), .int (nI (low)), .int (nI (hig)), .ref (bb 3), .int (nI (glo)), .ref (bb 4), .int (mdb), .int (mhl), .int (msp), .int (mmg), .ref (bb 5), .int (nI (mlv)), .int (nI (mpt)), .int (mls), .ref (bb 6), .int (nI (thr))])),
  (bb 1, .inl (cy, 120, .inl (fun j => nI (sto j)))),
  (bb 2, .inl (cy, 120, .inl (fun j => nI (vas j)))),
  (bb 3, .inl (cy, 256, .inl (fun j => nI (dpt j)))),
  (bb 4, .inl (cy, 120, .inl (fun j => nI (ext j)))),
  (bb 5, .inl (cy, 120, .inl (fun j => nI (lin j)))),
  (bb 6, .inl (cy, 120, .inl (fun j => nI (mov j)))),
  (oo, .inl (cq, 1, .inr (.inl ov)))]
/-- the law's invariant: the class and its model say the same -/
def INV (cy cq : ClassId) (a bb : Nat → Nat) (oo : Nat) (ws : va_W) : Prop := ∃ (key : Nat → Nat) (val : Nat → Nat) (ord : Nat → Nat) (tk : Nat) (cp : Nat) (efi : Nat → Nat) (ela : Nat → Nat) (eco : Nat → Nat) (ene : Nat → Nat) (ldp : Nat → Nat) (dp : Nat) (dbl : Int32) (hlv : Int32) (spl : Int32) (mrg : Int32) (lfi : Nat → Nat) (lla : Nat → Nat) (lco : Nat → Nat) (lne : Nat → Nat) (lev : Nat) (ptr : Nat) (llo : Nat) (lhi : Nat) (lsp : Int32) (dep : Nat → Nat) (E : List Nat) (L9 : List Nat) (sto : Nat → Nat) (vas : Nat → Nat) (dpt : Nat → Nat) (ext : Nat → Nat) (lin : Nat → Nat) (mov : Nat → Nat) (thr : Nat) (ov : Nat → Int64), ws = (wZ cy a key val ord tk cp efi ela eco ene ldp dp dbl hlv spl mrg lfi lla lco lne lev ptr llo lhi lsp bb sto vas tk cp llo lhi dpt dp ext dbl hlv spl mrg lin lev ptr lsp mov thr cq oo ov) ∧ CR key val ord tk cp efi ela eco ene ldp dp lfi lla lco lne lev ptr llo lhi dep E L9 ∧ MR sto vas tk dpt ext lin mov (stl key val ord tk) dep E L9 ∧ MC cp llo lhi dp lev ptr dep
theorem INV.mk9 {cy cq : ClassId} {a bb : Nat → Nat} {oo : Nat} {key : Nat → Nat} {val : Nat → Nat} {ord : Nat → Nat} {tk : Nat} {cp : Nat} {efi : Nat → Nat} {ela : Nat → Nat} {eco : Nat → Nat} {ene : Nat → Nat} {ldp : Nat → Nat} {dp : Nat} {dbl : Int32} {hlv : Int32} {spl : Int32} {mrg : Int32} {lfi : Nat → Nat} {lla : Nat → Nat} {lco : Nat → Nat} {lne : Nat → Nat} {lev : Nat} {ptr : Nat} {llo : Nat} {lhi : Nat} {lsp : Int32} {sto : Nat → Nat} {vas : Nat → Nat} {sz : Nat} {cap : Nat} {low : Nat} {hig : Nat} {dpt : Nat → Nat} {glo : Nat} {ext : Nat → Nat} {mdb : Int32} {mhl : Int32} {msp : Int32} {mmg : Int32} {lin : Nat → Nat} {mlv : Nat} {mpt : Nat} {mls : Int32} {mov : Nat → Nat} {thr : Nat} {ov : Nat → Int64} {dep dep2 : Nat → Nat} {E E2 L9 L2 : List Nat} {S : List (Nat × Nat)} (h1 : CR key val ord tk cp efi ela eco ene ldp dp lfi lla lco lne lev ptr llo lhi dep E L9) (h2 : MR sto vas sz dpt ext lin mov S dep2 E2 L2) (h3 : MC cap low hig glo mlv mpt dep2) (h4 : mkA key val ord tk cp dep dp E dbl hlv spl mrg L9 lev ptr llo lhi lsp = mkM S cap low hig dep2 glo E2 mdb mhl msp mmg L2 mlv mpt mls) : INV cy cq a bb oo (wZ cy a key val ord tk cp efi ela eco ene ldp dp dbl hlv spl mrg lfi lla lco lne lev ptr llo lhi lsp bb sto vas sz cap low hig dpt glo ext mdb mhl msp mmg lin mlv mpt mls mov thr cq oo ov) := by
  have hz := h2.1
  unfold mkA mkM at h4
  simp only [Prod.mk.injEq] at h4
  obtain ⟨⟨rfl, rfl, rfl, rfl⟩, ⟨rfl, rfl, rfl, rfl, rfl, rfl, rfl⟩, rfl, rfl, rfl, rfl⟩ := h4
  rw [stl_len] at hz
  subst hz
  exact ⟨_, _, _, _, _, _, _, _, _, _, _, _, _, _, _, _, _, _, _, _, _, _, _, _, _, _, _, _, _, _, _, _, _, _, _, rfl, h1, h2, h3⟩
theorem cod_i {X : String} (h : X ≠ tqISE) : cod X = nI 1 := if_neg h
theorem nI01 : (nI 0 : Int32) ≠ nI 1 := by decide
theorem ex_uniq {N : Nat} (hN : N ≤ 65536) {x : Int32} {R : Nat → Int32 → Prop} (hR : ∀ k, k < N → ∀ r r', R k r → R k r' → r = r') : ∀ r r', (∃ k, k < N ∧ x = nI k ∧ R k r) → (∃ k, k < N ∧ x = nI k ∧ R k r') → r = r' := by
  rintro r r' ⟨k, h1, h2, h3⟩ ⟨j, g1, g2, g3⟩
  obtain rfl := (nI_eq (by omega) (by omega)).mp (h2.symm.trans g2)
  exact hR _ h1 _ _ h3 g3
theorem ex_fun {N : Nat} (hN : N ≤ 65536) {x : Int32} {g : Nat → Int32} : ∀ r r', (∃ k, k < N ∧ x = nI k ∧ r = g k) → (∃ k, k < N ∧ x = nI k ∧ r' = g k) → r = r' := ex_uniq (R := fun k r => r = g k) hN (fun _ _ _ _ a b => a.trans b.symm)
theorem SS.uniq {S : List (Nat × Nat)} (h : SS S) {k v w : Nat} (h1 : (k, v) ∈ S) (h2 : (k, w) ∈ S) : v = w := by
  obtain ⟨i, hi, e1⟩ := List.mem_iff_getElem.mp h1
  obtain ⟨j, hj, e2⟩ := List.mem_iff_getElem.mp h2
  rcases Nat.lt_trichotomy i j with q | q | q
  · have := List.pairwise_iff_getElem.mp h i j hi hj q
    rw [e1, e2] at this; exact absurd this (Nat.lt_irrefl _)
  · subst q; exact congrArg Prod.snd (e1.symm.trans e2)
  · have := List.pairwise_iff_getElem.mp h j i hj hi q
    rw [e1, e2] at this; exact absurd this (Nat.lt_irrefl _)
theorem getP_uniq {S : List (Nat × Nat)} (h : SS S) {x : Int32} : ∀ r r', getP S x r → getP S x r' → r = r' := by
  refine ex_uniq (R := fun k r => (∃ v, (k, v) ∈ S ∧ r = nI v) ∨ ((∀ v, (k, v) ∉ S) ∧ r = -1)) (by decide) (fun k _ r r' a b => ?_)
  rcases a with ⟨v, a1, a2⟩ | ⟨a1, a2⟩ <;> rcases b with ⟨w, b1, b2⟩ | ⟨b1, b2⟩
  · rw [a2, b2, h.uniq a1 b1]
  · exact absurd a1 (b1 v)
  · exact absurd b1 (a1 w)
  · rw [a2, b2]
theorem prP_uniq {B : List Nat} {cap k : Nat} : ∀ r r', prP B cap k r → prP B cap k r' → r = r' := by
  rintro r r' (⟨i, a1, a2, a3, a4⟩ | ⟨a1, a2⟩) (⟨j, b1, b2, b3, b4⟩ | ⟨b1, b2⟩)
  · rcases Nat.lt_trichotomy i j with q | q | q
    · exact absurd a2 (b3 i q)
    · subst q; rw [a4, b4]
    · exact absurd b2 (a3 j q)
  · exact absurd a2 (b1 i a1)
  · exact absurd b2 (a1 j b1)
  · rw [a2, b2]
theorem at_uniq {B : List Nat} (hB : B.length ≤ 65536) {x : Int32} : ∀ r r', (∃ p, p < B.length ∧ x = nI p ∧ r = nI (B.getD p 0)) → (∃ p, p < B.length ∧ x = nI p ∧ r' = nI (B.getD p 0)) → r = r' := ex_fun (g := fun p => nI (B.getD p 0)) hB
/-- a read: both answer, or both refuse -/
theorem meet_read {P : Int32 → Prop} {Rng : Prop} {X : String} {k r2 : Int32} {ov0 : Int64} {thr : Nat} {U : Prop} (hX : X ≠ tqISE) (hw : (k = nI 0 ∧ ∃ r : Int32, ov0 = r.toInt64 ∧ P r) ∨ (∃ E9, (E9 = X ∧ ¬ Rng) ∧ k = cod E9 ∧ U)) (hm : (P r2 ∧ thr = 0) ∨ (¬ Rng ∧ thr = 1)) (hR : ∀ r, P r → Rng) (hu : ∀ r r', P r → P r' → r = r') :
    nI thr = k ∧ (k = nI 0 → ov0 = r2.toInt64) := by
  rcases hw with ⟨rfl, r, a1, a2⟩ | ⟨E9, ⟨rfl, a1⟩, a2, -⟩ <;> rcases hm with ⟨b1, rfl⟩ | ⟨b1, rfl⟩
  · exact ⟨rfl, fun _ => by rw [a1, hu _ _ a2 b1]⟩
  · exact absurd (hR _ a2) b1
  · exact absurd (hR _ b1) a1
  · rw [a2, cod_i hX]
    exact ⟨rfl, fun h => absurd h.symm nI01⟩
theorem meet_key {P : Nat → Int32 → Prop} {x : Int32} : ∀ r, (∃ k, k < 65536 ∧ x = nI k ∧ P k r) → isKey x := fun _ ⟨k, a, b, _⟩ => ⟨k, a, b⟩
theorem meet_ex {N : Nat} {P : Nat → Int32 → Prop} {x : Int32} : ∀ r, (∃ k, k < N ∧ x = nI k ∧ P k r) → ∃ k : Nat, k < N ∧ x = nI k := fun _ ⟨k, a, b, _⟩ => ⟨k, a, b⟩
theorem meet_ex2 {N : Nat} {B : Nat → List Nat} {x y : Int32} : ∀ r, (∃ k, k < N ∧ x = nI k ∧ ∃ p, p < (B k).length ∧ y = nI p ∧ r = nI ((B k).getD p 0)) → ∃ k p : Nat, k < N ∧ x = nI k ∧ p < (B k).length ∧ y = nI p := fun _ ⟨k, a, b, p, c, d, _⟩ => ⟨k, p, a, b, c, d⟩
theorem ISE_ne {A B : String} (h : A ≠ B) : A ≠ B := h
theorem meet_put {J1 J2 : AS → Prop} {A : AS} {S : List (Nat × Nat)} {tk : Nat} {p1 p2 k r2 : Int32} {ov0 : Int64} {thr : Nat} (hS : SS S)
    (hw : (k = nI 0 ∧ ∃ r : Int32, ov0 = r.toInt64 ∧ ∃ q v, q < 65536 ∧ v < 1000000 ∧ p1 = nI q ∧ p2 = nI v ∧ ((∃ w, (q, w) ∈ S ∧ r = nI w ∧ J1 (arep A q v)) ∨ ((∀ w, (q, w) ∉ S) ∧ tk < 120 ∧ r = -1 ∧ J1 (aadd A q v)))) ∨ (∃ E9, ((E9 = tqIAE ∧ ¬ (isKey p1 ∧ isVal p2)) ∨ (E9 = tqISE ∧ ∃ q v : Nat, q < 65536 ∧ v < 1000000 ∧ p1 = nI q ∧ p2 = nI v ∧ (∀ w, (q, w) ∉ S) ∧ tk = 120)) ∧ k = cod E9 ∧ J1 A))
    (hm : (∃ q v, q < 65536 ∧ v < 1000000 ∧ p1 = nI q ∧ p2 = nI v ∧ ((∃ w, (q, w) ∈ S ∧ r2 = nI w ∧ J2 (arep A q v) ∧ thr = 0) ∨ ((∀ w, (q, w) ∉ S) ∧ tk < 120 ∧ r2 = -1 ∧ J2 (aadd A q v) ∧ thr = 0) ∨ ((∀ w, (q, w) ∉ S) ∧ tk = 120 ∧ J2 A ∧ thr = 2))) ∨ (¬ (isKey p1 ∧ isVal p2) ∧ J2 A ∧ thr = 1)) :
    nI thr = k ∧ (k = nI 0 → ov0 = r2.toInt64) ∧ ∃ B, J1 B ∧ J2 B := by
  have same : ∀ {q v q' v' : Nat}, q < 65536 → v < 1000000 → p1 = nI q → p2 = nI v → q' < 65536 → v' < 1000000 → p1 = nI q' → p2 = nI v' → q = q' ∧ v = v' := fun a1 a2 a3 a4 b1 b2 b3 b4 => ⟨(nI_eq (by omega) (by omega)).mp (a3.symm.trans b3), (nI_eq (by omega) (by omega)).mp (a4.symm.trans b4)⟩
  rcases hw with ⟨rfl, r, e0, q, v, a1, a2, a3, a4, hw⟩ | ⟨E9, hw, hk, j1⟩
  · rcases hm with ⟨q', v', b1, b2, b3, b4, hm⟩ | ⟨hn, _, _⟩
    · obtain ⟨rfl, rfl⟩ := same a1 a2 a3 a4 b1 b2 b3 b4
      rcases hw with ⟨w, c1, c2, c3⟩ | ⟨c1, c2, c3, c4⟩
      · rcases hm with ⟨w', d1, d2, d3, rfl⟩ | ⟨d1, _⟩ | ⟨d1, _⟩
        · exact ⟨rfl, fun _ => by rw [e0, c2, d2, hS.uniq c1 d1], _, c3, d3⟩
        · exact absurd c1 (d1 w)
        · exact absurd c1 (d1 w)
      · rcases hm with ⟨w', d1, _⟩ | ⟨d1, d2, d3, d4, rfl⟩ | ⟨d1, d2, _⟩
        · exact absurd d1 (c1 w')
        · exact ⟨rfl, fun _ => by rw [e0, c3, d3], _, c4, d4⟩
        · omega
    · exact absurd ⟨⟨q, a1, a3⟩, ⟨v, a2, a4⟩⟩ hn
  · rcases hw with ⟨rfl, hn⟩ | ⟨rfl, q, v, a1, a2, a3, a4, a5, a6⟩
    · rcases hm with ⟨q', v', b1, b2, b3, b4, _⟩ | ⟨_, j2, rfl⟩
      · exact absurd ⟨⟨q', b1, b3⟩, ⟨v', b2, b4⟩⟩ hn
      · rw [hk, cod_i (by decide)]
        exact ⟨rfl, fun h => absurd h.symm nI01, _, j1, j2⟩
    · rcases hm with ⟨q', v', b1, b2, b3, b4, hm⟩ | ⟨hn, _, _⟩
      · obtain ⟨rfl, rfl⟩ := same a1 a2 a3 a4 b1 b2 b3 b4
        rcases hm with ⟨w', d1, _⟩ | ⟨_, d2, _⟩ | ⟨_, _, j2, rfl⟩
        · exact absurd d1 (a5 w')
        · omega
        · rw [hk, show cod tqISE = nI 2 from if_pos rfl]
          exact ⟨rfl, fun h => absurd h (by decide), _, j1, j2⟩
      · exact absurd ⟨⟨q, a1, a3⟩, ⟨v, a2, a4⟩⟩ hn
theorem meet_remove {J1 J2 : AS → Prop} {A : AS} {S : List (Nat × Nat)} {p1 k r2 : Int32} {ov0 : Int64} {thr : Nat} (hS : SS S)
    (hw : (k = nI 0 ∧ ∃ r : Int32, ov0 = r.toInt64 ∧ ∃ q, q < 65536 ∧ p1 = nI q ∧ (((∀ w, (q, w) ∉ S) ∧ r = -1 ∧ J1 A) ∨ (∃ w, (q, w) ∈ S ∧ r = nI w ∧ J1 (adel A q)))) ∨ (∃ E9, (E9 = tqIAE ∧ ¬ isKey p1) ∧ k = cod E9 ∧ J1 A))
    (hm : (∃ q, q < 65536 ∧ p1 = nI q ∧ (((∀ w, (q, w) ∉ S) ∧ r2 = -1 ∧ J2 A ∧ thr = 0) ∨ (∃ w, (q, w) ∈ S ∧ r2 = nI w ∧ J2 (adel A q) ∧ thr = 0))) ∨ (¬ isKey p1 ∧ J2 A ∧ thr = 1)) :
    nI thr = k ∧ (k = nI 0 → ov0 = r2.toInt64) ∧ ∃ B, J1 B ∧ J2 B := by
  rcases hw with ⟨rfl, r, e0, q, a1, a3, hw⟩ | ⟨E9, ⟨rfl, hn⟩, hk, j1⟩
  · rcases hm with ⟨q', b1, b3, hm⟩ | ⟨hn, _, _⟩
    · obtain rfl := (nI_eq (by omega) (by omega)).mp (a3.symm.trans b3)
      rcases hw with ⟨c1, c2, c3⟩ | ⟨w, c1, c2, c3⟩
      · rcases hm with ⟨d1, d2, d3, rfl⟩ | ⟨w', d1, _⟩
        · exact ⟨rfl, fun _ => by rw [e0, c2, d2], _, c3, d3⟩
        · exact absurd d1 (c1 w')
      · rcases hm with ⟨d1, _⟩ | ⟨w', d1, d2, d3, rfl⟩
        · exact absurd c1 (d1 w)
        · exact ⟨rfl, fun _ => by rw [e0, c2, d2, hS.uniq c1 d1], _, c3, d3⟩
    · exact absurd ⟨q, a1, a3⟩ hn
  · rcases hm with ⟨q', b1, b3, _⟩ | ⟨_, j2, rfl⟩
    · exact absurd ⟨q', b1, b3⟩ hn
    · rw [hk, cod_i (by decide)]
      exact ⟨rfl, fun h => absurd h.symm nI01, _, j1, j2⟩
theorem meet_rebuild {J1 J2 : AS → Prop} {A : AS} {cp : Nat} {p1 k r2 : Int32} {ov0 : Int64} {thr : Nat}
    (hw : (k = nI 0 ∧ ∃ r : Int32, ov0 = r.toInt64 ∧ ∃ q : Nat, 1 ≤ q ∧ q ≤ 5 ∧ p1 = nI q ∧ r = nI cp ∧ J1 (areb A q)) ∨ (∃ E9, (E9 = tqIAE ∧ ¬ ∃ q : Nat, 1 ≤ q ∧ q ≤ 5 ∧ p1 = nI q) ∧ k = cod E9 ∧ J1 A))
    (hm : (∃ q : Nat, 1 ≤ q ∧ q ≤ 5 ∧ p1 = nI q ∧ r2 = nI cp ∧ J2 (areb A q) ∧ thr = 0) ∨ (¬ (∃ q : Nat, 1 ≤ q ∧ q ≤ 5 ∧ p1 = nI q) ∧ J2 A ∧ thr = 1)) :
    nI thr = k ∧ (k = nI 0 → ov0 = r2.toInt64) ∧ ∃ B, J1 B ∧ J2 B := by
  rcases hw with ⟨rfl, r, e0, q, a1, a2, a3, a4, j1⟩ | ⟨E9, ⟨rfl, hn⟩, hk, j1⟩
  · rcases hm with ⟨q', b1, b2, b3, b4, j2, rfl⟩ | ⟨hn, _, _⟩
    · obtain rfl := (nI_eq (by omega) (by omega)).mp (a3.symm.trans b3)
      exact ⟨rfl, fun _ => by rw [e0, a4, b4], _, j1, j2⟩
    · exact absurd ⟨q, a1, a2, a3⟩ hn
  · rcases hm with ⟨q', b1, b2, b3, _⟩ | ⟨_, j2, rfl⟩
    · exact absurd ⟨q', b1, b2, b3⟩ hn
    · rw [hk, cod_i (by decide)]
      exact ⟨rfl, fun h => absurd h.symm nI01, _, j1, j2⟩
theorem meet_setLoads {J1 J2 : AS → Prop} {A : AS} {F : Nat → Nat → AS} {lhi : Nat} {p1 p2 k r2 : Int32} {ov0 : Int64} {thr : Nat}
    (hw : (k = nI 0 ∧ ∃ r : Int32, ov0 = r.toInt64 ∧ ∃ lo hi : Nat, lo ≤ 50 ∧ 50 ≤ hi ∧ hi ≤ 200 ∧ 2 * lo ≤ hi ∧ p1 = nI lo ∧ p2 = nI hi ∧ r = nI lhi ∧ J1 (F lo hi)) ∨ (∃ E9, (E9 = tqIAE ∧ ¬ ∃ lo hi : Nat, lo ≤ 50 ∧ 50 ≤ hi ∧ hi ≤ 200 ∧ 2 * lo ≤ hi ∧ p1 = nI lo ∧ p2 = nI hi) ∧ k = cod E9 ∧ J1 A))
    (hm : ((∃ lo hi : Nat, lo ≤ 50 ∧ 50 ≤ hi ∧ hi ≤ 200 ∧ 2 * lo ≤ hi ∧ p1 = nI lo ∧ p2 = nI hi ∧ r2 = nI lhi ∧ J2 (F lo hi)) ∧ thr = 0) ∨ (¬ (∃ lo hi : Nat, lo ≤ 50 ∧ 50 ≤ hi ∧ hi ≤ 200 ∧ 2 * lo ≤ hi ∧ p1 = nI lo ∧ p2 = nI hi) ∧ J2 A ∧ thr = 1)) :
    nI thr = k ∧ (k = nI 0 → ov0 = r2.toInt64) ∧ ∃ B, J1 B ∧ J2 B := by
  rcases hw with ⟨rfl, r, e0, lo, hi, a1, a2, a3, a4, a5, a6, a7, j1⟩ | ⟨E9, ⟨rfl, hn⟩, hk, j1⟩
  · rcases hm with ⟨⟨lo', hi', b1, b2, b3, b4, b5, b6, b7, j2⟩, rfl⟩ | ⟨hn, _, _⟩
    · obtain rfl := (nI_eq (by omega) (by omega)).mp (a5.symm.trans b5)
      obtain rfl := (nI_eq (by omega) (by omega)).mp (a6.symm.trans b6)
      exact ⟨rfl, fun _ => by rw [e0, a7, b7], _, j1, j2⟩
    · exact absurd ⟨lo, hi, a1, a2, a3, a4, a5, a6⟩ hn
  · rcases hm with ⟨⟨lo', hi', b1, b2, b3, b4, b5, b6, b7, j2⟩, rfl⟩ | ⟨_, j2, rfl⟩
    · exact absurd ⟨lo', hi', b1, b2, b3, b4, b5, b6⟩ hn
    · rw [hk, cod_i (by decide)]
      exact ⟨rfl, fun h => absurd h.symm nI01, _, j1, j2⟩
theorem mk_same {key val ord : Nat → Nat} {tk cp : Nat} {dep : Nat → Nat} {dp : Nat} {E : List Nat} {dbl hlv spl mrg : Int32} {L : List Nat} {lev ptr llo lhi : Nat} {lsp : Int32} : mkM (stl key val ord tk) cp llo lhi dep dp E dbl hlv spl mrg L lev ptr lsp = mkA key val ord tk cp dep dp E dbl hlv spl mrg L lev ptr llo lhi lsp := rfl
section TLW
variable {p : Program} {l : Launch} {e : Env} {R : Room} {s : State} {m : MethodId} {args : Array Value} {below : List Frame} {meth : Method} {c : Code} {H : Heap} {locs : List Loc} {cells slots : Nat} {Q : State → Prop}
variable {D : va_G} {cy cq : ClassId} {own : String} {cc : ByteArray} {nL : Nat} {rt : Option FieldType} {A : Nat → Prop} {ws Ws Wc wr : va_W} {pc : Nat} {ls : Array Slot} {rest : List Value}
theorem tq_cW {y : MethodName} {b1 : ByteArray} {n1 n idx fr lo : Nat} {hh : List (Nat × Nat × Nat × Nat)} (C : tq_C p s m meth c own cc nL rt) (h1 : Cond.methodLink own idx y ∈ lw_tbl) (h2 : Cond.static y ∈ lw_tbl) (h4 : Cond.initialized y.cls ∈ lw_tbl) (h5 : Cond.codeWith y b1 n1 (some .int) hh ∈ lw_tbl)
    (hd : y.cls ≠ "java/lang/invoke/MethodHandle" ∧ y.cls ≠ "java/lang/invoke/VarHandle" ∧ (parseMethodDescriptor y.desc).map (fun d => d.parameters.length) = some n) (hR : fr + 1 ≤ R.frames ∧ 8 + (n1 + 11) + lo ≤ R.locals) :
    vx_CSW R s args own idx y b1 n1 (some .int) hh [.codeWith y b1 n1 (some .int) hh] { frames := fr, cells := 1, slots := 6, locals := lo } 1 6 n :=
  ⟨⟨rfl, rfl, hR.1, hR.2, fun w hw a' U hW => by rcases List.mem_singleton.mp hw with rfl; exact (C.2.2.2.2.2.2.warm hW).use h5 rfl, List.mem_cons_self⟩, C.2.2.2.2.2.2.use h5 rfl, C.2.2.2.2.2.2.use h4 rfl, ⟨hd.1, hd.2.1⟩, fun sig h => by
    have h2 := hd.2.2
    rw [h] at h2
    exact (Option.some.inj h2).symm, C.2.2.2.2.2.2.use h1 rfl, C.2.2.2.2.2.2.use h2 rfl⟩
theorem tq_preL {av : List Value} (C : tq_C p s m meth c own cc nL rt) (hN : va_Nc tqISE tqIAE s) (hK : va_K D vwCl (tq_ty2 cy cq) s) (hP : va_P D vwCl ws H) (hD : va_D A ws) (hS : va_S A s.heap H locs) (hA : ∀ q : Nat, s.heap.size ≤ q → A q) (hE : tq_E A s s.heap) (isC : List Nat) (hn : va_nd isC = true) (hC : isC.map (fun i => ws[i]?) = Wc.map some) :
    ∀ U : State, U.heap = H → s.WarmedH U.vm → tq_Pl D cy cq Wc H.size av av.toArray U :=
  fun U hU hW => ⟨rfl, C.2.2.2.2.2.2.warm hW, va_Nc.moved hW.alike hN, by rw [hU], by rw [hU]; exact hP.sub isC (tq_pick hC), va_K.moved hW.alike hK, (hD.sub isC hn hC).weaken (fun _ _ _ _ => trivial), by
    rw [hU]
    exact ((hE.kept (fun a ha hna => hS.2.1 a ha hna)).narrow (va_free (wc := Wc) hD hS hA isC hC)).warm hW⟩
theorem lv_lcmp0 (hexec : p.tables.exec = Jvm.exec) (hb : c.code = cc) {x : Int64} (hdg : decode cc pc = .ok (.lcmp, 1))
    (k : W p l e R s m args below meth c H locs cells slots Q (F0 m (pc + 1) ls (.int 0 :: rest))) : W p l e R s m args below meth c H locs cells slots Q (F0 m pc ls (.long x :: .long x :: rest)) := by
  intro T hT X
  obtain ⟨t, a, b⟩ := k T hT X
  refine ⟨t, ?_, b⟩
  have h1 : ¬ x > x := fun h => by have := Int64.lt_iff_toInt_lt.mp h; omega
  jvm_step X.here [X.here.top, hexec, hb, hdg, h1]
  exact a
theorem vp_inN {k L : Nat} (h : k < L) (hL : L ≤ 1536) : vp_in (nI k) L := by
  rintro (q | q)
  · exact nI_pos (by omega) q
  · rw [nI_clamp (by omega)] at q; omega
end TLW
