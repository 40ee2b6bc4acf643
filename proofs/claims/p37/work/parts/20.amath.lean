/-! the store, and both tables, as one value -/
abbrev AS : Type := (List (Nat × Nat) × Nat × Nat × Nat) × ((Nat → Nat) × Nat × List Nat × Int32 × Int32 × Int32 × Int32) × (List Nat × Nat × Nat × Int32)
def insS (S : List (Nat × Nat)) (k v : Nat) : List (Nat × Nat) := S.filter (fun q => decide (q.1 < k)) ++ (k, v) :: S.filter (fun q => decide (k < q.1))
def repS (S : List (Nat × Nat)) (k v : Nat) : List (Nat × Nat) := S.map (fun q => if q.1 = k then (k, v) else q)
def remS (S : List (Nat × Nat)) (k : Nat) : List (Nat × Nat) := S.filter (fun q => q.1 != k)
/-- a new key is put -/
def aadd (A : AS) (k v : Nat) : AS :=
  ((insS A.1.1 k v, A.1.2), ((pS A.1.2.1 A.2.1.2.2.1 (hs k % 256) 9 (A.2.1.1, A.2.1.2.1, A.2.1.2.2.2.1, A.2.1.2.2.2.2.2.1)).1, (pS A.1.2.1 A.2.1.2.2.1 (hs k % 256) 9 (A.2.1.1, A.2.1.2.1, A.2.1.2.2.2.1, A.2.1.2.2.2.2.2.1)).2.1, A.2.1.2.2.1 ++ [k],
    (pS A.1.2.1 A.2.1.2.2.1 (hs k % 256) 9 (A.2.1.1, A.2.1.2.1, A.2.1.2.2.2.1, A.2.1.2.2.2.2.2.1)).2.2.1, A.2.1.2.2.2.2.1, (pS A.1.2.1 A.2.1.2.2.1 (hs k % 256) 9 (A.2.1.1, A.2.1.2.1, A.2.1.2.2.2.1, A.2.1.2.2.2.2.2.1)).2.2.2, A.2.1.2.2.2.2.2.2),
    (A.2.2.1 ++ [k], lS A.1.2.1 A.1.2.2.2 (A.1.1.length + 1) 241 (A.2.2.2.1, A.2.2.2.2.1, A.2.2.2.2.2)))
/-- a key is removed -/
def adel (A : AS) (k : Nat) : AS :=
  ((remS A.1.1 k, A.1.2), ((mS A.1.2.1 (hs k % 256) 9 (A.2.1.1, A.2.1.2.2.1.filter (· != k), A.2.1.2.2.2.2.2.2)).1, mx (mS A.1.2.1 (hs k % 256) 9 (A.2.1.1, A.2.1.2.2.1.filter (· != k), A.2.1.2.2.2.2.2.2)).1 256,
    (mS A.1.2.1 (hs k % 256) 9 (A.2.1.1, A.2.1.2.2.1.filter (· != k), A.2.1.2.2.2.2.2.2)).2.1, A.2.1.2.2.2.1, A.2.1.2.2.2.2.1 + nI (A.2.1.2.1 - mx (mS A.1.2.1 (hs k % 256) 9 (A.2.1.1, A.2.1.2.2.1.filter (· != k), A.2.1.2.2.2.2.2.2)).1 256), A.2.1.2.2.2.2.2.1,
    (mS A.1.2.1 (hs k % 256) 9 (A.2.1.1, A.2.1.2.2.1.filter (· != k), A.2.1.2.2.2.2.2.2)).2.2),
    lB A.1.2.1 A.1.2.2.1 (A.1.1.length - 1) 241 (A.2.2.1.filter (· != k), A.2.2.2.1, A.2.2.2.2.1, A.2.2.2.2.2))
/-- everything is taken out; the capacity is to be c -/
def aclr (A : AS) (c : Nat) : AS := (([], c, A.1.2.2), (fun _ => 0, 0, [], A.2.1.2.2.2), ([], 0, 0, A.2.2.2.2.2))
def areb (A : AS) (c : Nat) : AS := A.1.1.foldl (fun B q => aadd B q.1 q.2) (aclr A c)
def SS (S : List (Nat × Nat)) : Prop := S.Pairwise (fun a b => a.1 < b.1)
theorem SS_ext : ∀ {S T : List (Nat × Nat)}, SS S → SS T → (∀ q, q ∈ S ↔ q ∈ T) → S = T
  | [], [], _, _, _ => rfl
  | [], b :: T, _, _, h => absurd ((h b).mpr List.mem_cons_self) List.not_mem_nil
  | a :: S, [], _, _, h => absurd ((h a).mp List.mem_cons_self) List.not_mem_nil
  | a :: S, b :: T, hS, hT, h => by
    obtain ⟨h1, h2⟩ := List.pairwise_cons.mp hS
    obtain ⟨h3, h4⟩ := List.pairwise_cons.mp hT
    have hab : a = b := by
      rcases List.mem_cons.mp ((h a).mp List.mem_cons_self) with q | q
      · exact q
      · rcases List.mem_cons.mp ((h b).mpr List.mem_cons_self) with q2 | q2
        · exact q2.symm
        · have x1 := h3 a q
          have x2 := h1 b q2
          omega
    subst hab
    have : S = T := SS_ext h2 h4 (fun q => by
      constructor
      · intro hq
        rcases List.mem_cons.mp ((h q).mp (List.mem_cons_of_mem _ hq)) with z | z
        · have := h1 q hq; rw [z] at this; omega
        · exact z
      · intro hq
        rcases List.mem_cons.mp ((h q).mpr (List.mem_cons_of_mem _ hq)) with z | z
        · have := h3 q hq; rw [z] at this; omega
        · exact z)
    rw [this]
theorem insS_mem {S : List (Nat × Nat)} {k v : Nat} (h : ∀ q ∈ S, q.1 ≠ k) (q : Nat × Nat) : q ∈ insS S k v ↔ q = (k, v) ∨ q ∈ S := by
  unfold insS
  rw [List.mem_append, List.mem_cons, List.mem_filter, List.mem_filter, decide_eq_true_eq, decide_eq_true_eq]
  constructor
  · rintro (⟨a, -⟩ | a | ⟨a, -⟩)
    · exact Or.inr a
    · exact Or.inl a
    · exact Or.inr a
  · rintro (a | a)
    · exact Or.inr (Or.inl a)
    · have := h q a
      rcases Nat.lt_or_gt_of_ne this with z | z
      · exact Or.inl ⟨a, z⟩
      · exact Or.inr (Or.inr ⟨a, z⟩)
theorem insS_sorted {S : List (Nat × Nat)} {k v : Nat} (h : SS S) : SS (insS S k v) := by
  unfold insS SS
  rw [List.pairwise_append, List.pairwise_cons]
  refine ⟨h.filter _, ⟨fun a ha => ?_, h.filter _⟩, fun a ha b hb => ?_⟩
  · have := (List.mem_filter.mp ha).2
    simpa using this
  · have h1 : a.1 < k := by simpa using (List.mem_filter.mp ha).2
    rcases List.mem_cons.mp hb with rfl | hb
    · exact h1
    · have h2 : k < b.1 := by simpa using (List.mem_filter.mp hb).2
      omega
/-- the store's list -/
def stl (key val ord : Nat → Nat) (tk : Nat) : List (Nat × Nat) := (List.range tk).map (fun i => (key (ord i), val (ord i)))
theorem stl_mem {key val ord : Nat → Nat} {tk : Nat} {q : Nat × Nat} : q ∈ stl key val ord tk ↔ ∃ i, i < tk ∧ (key (ord i), val (ord i)) = q := by
  unfold stl
  rw [List.mem_map]
  constructor
  · rintro ⟨i, hi, e⟩; exact ⟨i, List.mem_range.mp hi, e⟩
  · rintro ⟨i, hi, e⟩; exact ⟨i, List.mem_range.mpr hi, e⟩
theorem stl_len {key val ord : Nat → Nat} {tk : Nat} : (stl key val ord tk).length = tk := by simp [stl]
theorem stl_sorted {key val ord : Nat → Nat} {tk : Nat} (h : ∀ i j, i < j → j < tk → key (ord i) < key (ord j)) : SS (stl key val ord tk) := by
  unfold SS stl
  rw [List.pairwise_map, List.pairwise_iff_getElem]
  intro i j hi hj hij
  simp only [List.getElem_range]
  exact h i j hij (by simpa using hj)
def US (ord : Nat → Nat) (tk e : Nat) : Prop := ∃ i, i < tk ∧ ord i = e
theorem SO.inj {key val ord : Nat → Nat} {tk : Nat} (h : SO key val ord tk) {i j : Nat} (hi : i < tk) (hj : j < tk) (e : key (ord i) = key (ord j)) : i = j := by
  rcases Nat.lt_trichotomy i j with q | q | q
  · have := h.2.2.2.1 i j q hj; omega
  · exact q
  · have := h.2.2.2.1 j i q hi; omega
theorem SO.injU {key val ord : Nat → Nat} {tk : Nat} (h : SO key val ord tk) : ∀ e f, US ord tk e → US ord tk f → key e = key f → e = f := by
  rintro e f ⟨i, hi, rfl⟩ ⟨j, hj, rfl⟩ z
  rw [h.inj hi hj z]
theorem SO.keyb {key val ord : Nat → Nat} {tk : Nat} (h : SO key val ord tk) : ∀ e, 1 ≤ e → e ≤ 120 → key e < 65536 := fun e _ _ => (h.2.2.2.2 e).1
/-- an entry has been taken for a new key -/
theorem SO.take {key val ord : Nat → Nat} {tk k v : Nat} (h : SO key val ord tk) (htk : tk < 120) (hk : k < 65536) (hv : v < 1000000) (hnew : ∀ i, i < tk → key (ord i) ≠ k) {o2 : Nat → Nat} {pl : Nat} (h0 : pl ≤ tk) (h1 : ∀ i, i < pl → o2 i = ord i ∧ key (ord i) < k) (h2 : o2 pl = ord tk)
    (h3 : ∀ i, pl ≤ i → i < tk → o2 (i + 1) = ord i ∧ k < key (ord i)) (h4 : ∀ i, tk < i → o2 i = ord i) :
    SO (va_up key (ord tk) k) (va_up val (ord tk) v) o2 (tk + 1) ∧ stl (va_up key (ord tk) k) (va_up val (ord tk) v) o2 (tk + 1) = insS (stl key val ord tk) k v ∧ (∀ e, US ord tk e → US o2 (tk + 1) e) ∧ US o2 (tk + 1) (ord tk) ∧ ¬ US ord tk (ord tk) ∧ (∀ e, US ord tk e → va_up key (ord tk) k e = key e) := by
  have hne : ∀ i, i < tk → ord i ≠ ord tk := fun i hi z => by have := h.2.2.1 i tk (by omega) htk z; omega
  -- each place of o2
  have cases9 : ∀ i, i < 120 → (i < pl ∧ o2 i = ord i) ∨ (i = pl ∧ o2 i = ord tk) ∨ (pl < i ∧ i ≤ tk ∧ o2 i = ord (i - 1)) ∨ (tk < i ∧ o2 i = ord i) := fun i hi => by
    rcases Nat.lt_trichotomy i pl with q | q | q
    · exact Or.inl ⟨q, (h1 i q).1⟩
    · exact Or.inr (Or.inl ⟨q, by rw [q, h2]⟩)
    · rcases Nat.lt_or_ge tk i with q2 | q2
      · exact Or.inr (Or.inr (Or.inr ⟨q2, h4 i q2⟩))
      · have := (h3 (i - 1) (by omega) (by omega)).1
        rw [Nat.sub_add_cancel (by omega)] at this
        exact Or.inr (Or.inr (Or.inl ⟨q, q2, this⟩))
  have hkey : ∀ i, i < tk → va_up key (ord tk) k (ord i) = key (ord i) := fun i hi => up_n _ _ (hne i hi)
  have hval : ∀ i, i < tk → va_up val (ord tk) v (ord i) = val (ord i) := fun i hi => up_n _ _ (hne i hi)
  have hmem : ∀ e, US ord tk e → US o2 (tk + 1) e := by
    rintro e ⟨i, hi, rfl⟩
    rcases Nat.lt_or_ge i pl with q | q
    · exact ⟨i, by omega, (h1 i q).1⟩
    · exact ⟨i + 1, by omega, (h3 i q hi).1⟩
  have hSO : SO (va_up key (ord tk) k) (va_up val (ord tk) v) o2 (tk + 1) := by
    refine ⟨by omega, fun i hi => ?_, fun i j hi hj e => ?_, fun i j hij hj => ?_, fun e => ?_⟩
    · rcases cases9 i hi with ⟨-, q⟩ | ⟨-, q⟩ | ⟨-, -, q⟩ | ⟨-, q⟩ <;> rw [q]
      · exact h.2.1 i hi
      · exact h.2.1 tk htk
      · exact h.2.1 (i - 1) (by omega)
      · exact h.2.1 i hi
    · rcases cases9 i hi with ⟨a, q⟩ | ⟨a, q⟩ | ⟨a, a2, q⟩ | ⟨a, q⟩ <;> rcases cases9 j hj with ⟨b, r⟩ | ⟨b, r⟩ | ⟨b, b2, r⟩ | ⟨b, r⟩ <;> rw [q, r] at e <;> have z := h.2.2.1 _ _ (by omega) (by omega) e <;> omega
    · rcases cases9 i (by omega) with ⟨a, q⟩ | ⟨a, q⟩ | ⟨a, a2, q⟩ | ⟨a, q⟩ <;> rcases cases9 j (by omega) with ⟨b, r⟩ | ⟨b, r⟩ | ⟨b, b2, r⟩ | ⟨b, r⟩ <;> first | omega | (rw [q, r]; first | (rw [hkey _ (by omega), hkey _ (by omega)]; exact h.2.2.2.1 _ _ (by omega) (by omega)) | (rw [hkey _ (by omega), up_s]; exact (h1 _ a).2) | (rw [up_s, hkey (j - 1) (by omega)]; exact (h3 (j - 1) (by omega) (by omega)).2))
    · constructor
      · by_cases z : e = ord tk
        · rw [z, up_s]; exact hk
        · rw [up_n _ _ z]; exact (h.2.2.2.2 e).1
      · by_cases z : e = ord tk
        · rw [z, up_s]; exact hv
        · rw [up_n _ _ z]; exact (h.2.2.2.2 e).2
  refine ⟨hSO, ?_, hmem, ⟨pl, by omega, h2⟩, ?_, ?_⟩
  · refine SS_ext (stl_sorted hSO.2.2.2.1) (insS_sorted (stl_sorted h.2.2.2.1)) (fun q => ?_)
    rw [insS_mem (fun q hq => by
      obtain ⟨i, hi, rfl⟩ := stl_mem.mp hq
      exact hnew i hi), stl_mem, stl_mem]
    constructor
    · rintro ⟨i, hi, rfl⟩
      rcases cases9 i (by omega) with ⟨a, q⟩ | ⟨a, q⟩ | ⟨a, a2, q⟩ | ⟨a, q⟩
      · exact Or.inr ⟨i, by omega, by rw [q, hkey _ (by omega), hval _ (by omega)]⟩
      · exact Or.inl (by rw [q, up_s, up_s])
      · exact Or.inr ⟨i - 1, by omega, by rw [q, hkey _ (by omega), hval _ (by omega)]⟩
      · omega
    · rintro (rfl | ⟨i, hi, rfl⟩)
      · exact ⟨pl, by omega, by rw [h2, up_s, up_s]⟩
      · obtain ⟨j, hj, e⟩ := hmem (ord i) ⟨i, hi, rfl⟩
        exact ⟨j, hj, by rw [e, hkey i hi, hval i hi]⟩
  · rintro ⟨i, hi, e⟩
    exact hne i hi e
  · rintro e ⟨i, hi, rfl⟩
    exact hkey i hi
/-- an entry has been given back -/
theorem SO.release {key val ord : Nat → Nat} {tk i0 en : Nat} (h : SO key val ord tk) (hi0 : i0 < tk) (hen : ord i0 = en) {o2 : Nat → Nat} (h1 : ∀ i, i < i0 → o2 i = ord i) (h2 : ∀ i, i0 ≤ i → i < tk - 1 → o2 i = ord (i + 1)) (h3 : o2 (tk - 1) = en) (h4 : ∀ i, tk ≤ i → o2 i = ord i) :
    SO key val o2 (tk - 1) ∧ stl key val o2 (tk - 1) = remS (stl key val ord tk) (key en) ∧ (∀ e, US ord tk e → e ≠ en → US o2 (tk - 1) e) ∧ ∀ i, i < tk - 1 → ∃ j, j < tk ∧ o2 i = ord j ∧ key (ord j) ≠ key en := by
  have htk := h.1
  have cases9 : ∀ i, i < 120 → (i < i0 ∧ o2 i = ord i) ∨ (i0 ≤ i ∧ i < tk - 1 ∧ o2 i = ord (i + 1)) ∨ (i = tk - 1 ∧ o2 i = ord i0) ∨ (tk ≤ i ∧ o2 i = ord i) := fun i hi => by
    rcases Nat.lt_or_ge i i0 with q | q
    · exact Or.inl ⟨q, h1 i q⟩
    · rcases Nat.lt_trichotomy i (tk - 1) with q2 | q2 | q2
      · exact Or.inr (Or.inl ⟨q, q2, h2 i q q2⟩)
      · exact Or.inr (Or.inr (Or.inl ⟨q2, by rw [q2, h3, hen]⟩))
      · exact Or.inr (Or.inr (Or.inr ⟨by omega, h4 i (by omega)⟩))
  have hSO : SO key val o2 (tk - 1) := by
    refine ⟨by omega, fun i hi => ?_, fun i j hi hj e => ?_, fun i j hij hj => ?_, h.2.2.2.2⟩
    · rcases cases9 i hi with ⟨a, q⟩ | ⟨a, a2, q⟩ | ⟨a, q⟩ | ⟨a, q⟩ <;> rw [q]
      · exact h.2.1 i hi
      · exact h.2.1 (i + 1) (by omega)
      · exact h.2.1 i0 (by omega)
      · exact h.2.1 i hi
    · rcases cases9 i hi with ⟨a, q⟩ | ⟨a, a2, q⟩ | ⟨a, q⟩ | ⟨a, q⟩ <;> rcases cases9 j hj with ⟨b, r⟩ | ⟨b, b2, r⟩ | ⟨b, r⟩ | ⟨b, r⟩ <;> rw [q, r] at e <;> have z := h.2.2.1 _ _ (by omega) (by omega) e <;> omega
    · rcases cases9 i (by omega) with ⟨a, q⟩ | ⟨a, a2, q⟩ | ⟨a, q⟩ | ⟨a, q⟩ <;> rcases cases9 j (by omega) with ⟨b, r⟩ | ⟨b, b2, r⟩ | ⟨b, r⟩ | ⟨b, r⟩ <;> first | omega | (rw [q, r]; exact h.2.2.2.1 _ _ (by omega) (by omega))
  have hmem : ∀ e, US ord tk e → e ≠ en → US o2 (tk - 1) e := by
    rintro e ⟨i, hi, rfl⟩ hne
    rcases Nat.lt_trichotomy i i0 with q | q | q
    · exact ⟨i, by omega, h1 i q⟩
    · rw [q] at hne; exact absurd hen hne
    · exact ⟨i - 1, by omega, by rw [h2 (i - 1) (by omega) (by omega), Nat.sub_add_cancel (by omega)]⟩
  have hback : ∀ i, i < tk - 1 → ∃ j, j < tk ∧ o2 i = ord j ∧ key (ord j) ≠ key en := fun i hi => by
    rcases cases9 i (by omega) with ⟨a, q⟩ | ⟨a, a2, q⟩ | ⟨a, q⟩ | ⟨a, q⟩
    · exact ⟨i, by omega, q, fun z => by rw [← hen] at z; have := h.inj (by omega) hi0 z; omega⟩
    · exact ⟨i + 1, by omega, q, fun z => by rw [← hen] at z; have := h.inj (by omega) hi0 z; omega⟩
    · omega
    · omega
  refine ⟨hSO, SS_ext (stl_sorted hSO.2.2.2.1) ((stl_sorted h.2.2.2.1).filter _) (fun q => ?_), hmem, hback⟩
  unfold remS
  rw [List.mem_filter, stl_mem, stl_mem]
  constructor
  · rintro ⟨i, hi, rfl⟩
    obtain ⟨j, hj, e1, e2⟩ := hback i hi
    exact ⟨⟨j, hj, by rw [e1]⟩, by rw [e1]; simpa using e2⟩
  · rintro ⟨⟨i, hi, rfl⟩, z⟩
    have z2 : ord i ≠ en := fun y => by rw [y] at z; simp at z
    obtain ⟨j, hj, e⟩ := hmem (ord i) ⟨i, hi, rfl⟩ z2
    exact ⟨j, hj, by rw [e]⟩
theorem XR.rekey {key key2 ldp : Nat → Nat} {dp : Nat} {efi ela eco ene : Nat → Nat} {rows : Nat → List Nat} {dep : Nat → Nat} {E : List Nat} {U : Nat → Prop} (h : XR key ldp dp efi ela eco ene rows dep E U) (hk : ∀ e, U e → key2 e = key e) : XR key2 ldp dp efi ela eco ene rows dep E U := by
  obtain ⟨a, b, c, d, f, g⟩ := h
  exact ⟨a, b, c, d, fun r hr => by rw [← f r hr]; exact List.map_congr_left (fun e he => hk e (g r hr e he)), g⟩
theorem YR.rekey {key key2 : Nat → Nat} {v p : Nat} {lfi lla lco lne : Nat → Nat} {rows : Nat → List Nat} {L : List Nat} {U : Nat → Prop} (h : YR key v p lfi lla lco lne rows L U) (hk : ∀ e, U e → key2 e = key e) : YR key2 v p lfi lla lco lne rows L U := by
  obtain ⟨a, b, c, d⟩ := h
  exact ⟨a, b, fun r hr => by rw [← c r hr]; exact List.map_congr_left (fun e he => hk e (d r hr e he)), d⟩
