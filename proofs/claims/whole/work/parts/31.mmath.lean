
/-! the model's cells and the whole state -/
def mkM (S : List (Nat × Nat)) (cap low hig : Nat) (dep : Nat → Nat) (glo : Nat) (E : List Nat) (mdb mhl msp mmg : Int32) (L : List Nat) (mlv mpt : Nat) (mls : Int32) : AS := ((S, cap, low, hig), (dep, glo, E, mdb, mhl, msp, mmg), (L, mlv, mpt, mls))
def PM (sto vas : Nat → Nat) (n : Nat) (S : List (Nat × Nat)) : Prop := (∀ q, q ∈ S ↔ ∃ i, i < n ∧ (sto i, vas i) = q) ∧ ∀ i j, i < n → j < n → sto i = sto j → i = j
def KS (E : List Nat) (sto : Nat → Nat) (n : Nat) : Prop := E.Nodup ∧ ∀ k, k ∈ E ↔ ∃ i, i < n ∧ sto i = k
def MR (sto vas : Nat → Nat) (sz : Nat) (dpt ext lin mov : Nat → Nat) (S : List (Nat × Nat)) (dep : Nat → Nat) (E L : List Nat) : Prop :=
  sz = S.length ∧ sz = E.length ∧ sz = L.length ∧ sz ≤ 120 ∧ (∀ q, q < 256 → dpt q = dep q) ∧ AL ext E ∧ AL lin L ∧ PM sto vas sz S ∧ KS E sto sz ∧ KS L sto sz ∧ SS S ∧ ∀ i, sto i < 65536 ∧ vas i < 1000000 ∧ ext i < 65536 ∧ lin i < 65536 ∧ mov i < 65536
def MC (cap low hig glo mlv mpt : Nat) (dep : Nat → Nat) : Prop := XOK dep glo ∧ YOK mlv mpt ∧ (1 ≤ cap ∧ cap ≤ 5) ∧ (low ≤ 50 ∧ 50 ≤ hig ∧ hig ≤ 200)
theorem insS_len {S : List (Nat × Nat)} {k v : Nat} (h : ∀ q ∈ S, q.1 ≠ k) : (insS S k v).length = S.length + 1 := by
  unfold insS
  rw [List.length_append, List.length_cons]
  have : (S.filter (fun q => decide (q.1 < k))).length + (S.filter (fun q => decide (k < q.1))).length = S.length := by
    induction S with
    | nil => rfl
    | cons a S ih =>
      have h1 := h a List.mem_cons_self
      have h2 := ih (fun q hq => h q (List.mem_cons_of_mem _ hq))
      rcases Nat.lt_or_gt_of_ne h1 with z | z
      · rw [List.filter_cons_of_pos (by simpa using z), List.filter_cons_of_neg (by simpa using Nat.le_of_lt z)]
        simp only [List.length_cons]; omega
      · rw [List.filter_cons_of_neg (by simpa using Nat.le_of_lt z), List.filter_cons_of_pos (by simpa using z)]
        simp only [List.length_cons]; omega
  omega
theorem remS_len {S : List (Nat × Nat)} {k v : Nat} (h : SS S) (hm : (k, v) ∈ S) : (remS S k).length = S.length - 1 := by
  induction S with
  | nil => exact absurd hm List.not_mem_nil
  | cons a S ih =>
    obtain ⟨h1, h2⟩ := List.pairwise_cons.mp h
    unfold remS at ih ⊢
    rcases List.mem_cons.mp hm with z | z
    · rw [← z] at h1 ⊢
      rw [List.filter_cons_of_neg (by simp)]
      have : S.filter (fun q => q.1 != k) = S := by
        rw [List.filter_eq_self]
        intro q hq
        have := h1 q hq
        simp only [bne_iff_ne, ne_eq]
        show ¬ q.1 = k
        have h9 : k < q.1 := this
        omega
      rw [this]; simp
    · have h3 := h1 _ z
      rw [List.filter_cons_of_pos (by
        have h9 : a.1 < k := h3
        simp only [bne_iff_ne, ne_eq]
        omega), List.length_cons, ih h2 z]
      have : 0 < S.length := List.length_pos_of_mem z
      simp only [List.length_cons]; omega
theorem repS_sorted {S : List (Nat × Nat)} {k v : Nat} (h : SS S) : SS (repS S k v) := by
  unfold repS SS
  rw [List.pairwise_map]
  refine h.imp (fun {a b} hab => ?_)
  have e : ∀ q : Nat × Nat, (if q.1 = k then (k, v) else q).1 = q.1 := fun q => by
    split
    · rename_i z; exact z.symm
    · rfl
  rw [e a, e b]; exact hab
theorem PM.no {sto vas : Nat → Nat} {n k : Nat} {S : List (Nat × Nat)} (h : PM sto vas n S) (hk : ∀ i, i < n → sto i ≠ k) : (∀ q ∈ S, q.1 ≠ k) ∧ ∀ v, (k, v) ∉ S := by
  have h1 : ∀ q ∈ S, q.1 ≠ k := fun q hq => by
    obtain ⟨i, hi, e⟩ := (h.1 q).mp hq
    rw [← e]; exact hk i hi
  exact ⟨h1, fun v hv => h1 _ hv rfl⟩
theorem PM.get {sto vas : Nat → Nat} {n k i : Nat} {S : List (Nat × Nat)} (h : PM sto vas n S) (hi : i < n) (hk : sto i = k) (v : Nat) : (k, v) ∈ S ↔ v = vas i := by
  rw [h.1]
  constructor
  · rintro ⟨j, hj, e⟩
    have e1 : sto j = k := congrArg Prod.fst e
    have e2 : vas j = v := congrArg Prod.snd e
    rw [← e2, h.2 j i hj hi (e1.trans hk.symm)]
  · rintro rfl
    exact ⟨i, hi, by rw [hk]⟩
theorem PM.add {sto vas : Nat → Nat} {n k v : Nat} {S : List (Nat × Nat)} (h : PM sto vas n S) (hk : ∀ i, i < n → sto i ≠ k) : PM (va_up sto n k) (va_up vas n v) (n + 1) (insS S k v) := by
  refine ⟨fun q => ?_, fun i j hi hj e => ?_⟩
  · rw [insS_mem (h.no hk).1, h.1]
    constructor
    · rintro (rfl | ⟨i, hi, rfl⟩)
      · exact ⟨n, by omega, by rw [up_s, up_s]⟩
      · exact ⟨i, by omega, by rw [up_n _ _ (by omega), up_n _ _ (by omega)]⟩
    · rintro ⟨i, hi, rfl⟩
      by_cases z : i = n
      · rw [z, up_s, up_s]; exact Or.inl rfl
      · rw [up_n _ _ z, up_n _ _ z]; exact Or.inr ⟨i, by omega, rfl⟩
  · by_cases z : i = n <;> by_cases y : j = n
    · omega
    · rw [z, up_s, up_n _ _ y] at e; exact absurd e.symm (hk j (by omega))
    · rw [y, up_s, up_n _ _ z] at e; exact absurd e (hk i (by omega))
    · rw [up_n _ _ z, up_n _ _ y] at e; exact h.2 i j (by omega) (by omega) e
theorem PM.rep {sto vas : Nat → Nat} {n k v i0 : Nat} {S : List (Nat × Nat)} (h : PM sto vas n S) (hi : i0 < n) (hk : sto i0 = k) : PM sto (va_up vas i0 v) n (repS S k v) := by
  refine ⟨fun q => ?_, h.2⟩
  unfold repS
  rw [List.mem_map]
  constructor
  · rintro ⟨r, hr, e⟩
    obtain ⟨i, hi2, e2⟩ := (h.1 r).mp hr
    refine ⟨i, hi2, ?_⟩
    have e3 : sto i = r.1 := congrArg Prod.fst e2
    by_cases z : r.1 = k
    · rw [if_pos z] at e
      have := h.2 i i0 hi2 hi (by rw [e3, z, hk])
      rw [this, up_s, hk]; exact e
    · rw [if_neg z] at e
      rw [up_n _ _ (fun y => z (by rw [← e3, y, hk])), e2]; exact e
  · rintro ⟨i, hi2, e⟩
    refine ⟨(sto i, vas i), (h.1 _).mpr ⟨i, hi2, rfl⟩, ?_⟩
    by_cases z : i = i0
    · rw [z, up_s] at e
      show (if sto i = k then (k, v) else (sto i, vas i)) = q
      rw [if_pos (by rw [z, hk]), ← e, hk]
    · rw [up_n _ _ z] at e
      show (if sto i = k then (k, v) else (sto i, vas i)) = q
      rw [if_neg (fun y => z (h.2 i i0 hi2 hi (y.trans hk.symm))), e]
theorem PM.rem {sto vas : Nat → Nat} {n k i0 : Nat} {S : List (Nat × Nat)} (h : PM sto vas n S) (hi : i0 < n) (hk : sto i0 = k) : PM (va_up sto i0 (sto (n - 1))) (va_up vas i0 (vas (n - 1))) (n - 1) (remS S k) := by
  refine ⟨fun q => ?_, fun i j hi1 hj1 e => ?_⟩
  · unfold remS
    rw [List.mem_filter, h.1]
    constructor
    · rintro ⟨⟨i, hi2, rfl⟩, z⟩
      have z2 : sto i ≠ k := by simpa using z
      by_cases y : i = n - 1
      · refine ⟨i0, ?_, by rw [up_s, up_s, y]⟩
        rcases Nat.lt_or_ge i0 (n - 1) with w | w
        · exact w
        · exact absurd (by rw [y, ← hk, show i0 = n - 1 from by omega]) z2
      · exact ⟨i, by omega, by rw [up_n _ _ (fun w => z2 (by rw [w, hk])), up_n _ _ (fun w => z2 (by rw [w, hk]))]⟩
    · rintro ⟨i, hi2, rfl⟩
      by_cases y : i = i0
      · rw [y, up_s, up_s]
        refine ⟨⟨n - 1, by omega, rfl⟩, ?_⟩
        have : sto (n - 1) ≠ k := fun w => by have := h.2 (n - 1) i0 (by omega) hi (w.trans hk.symm); omega
        simpa using this
      · rw [up_n _ _ y, up_n _ _ y]
        refine ⟨⟨i, by omega, rfl⟩, ?_⟩
        have : sto i ≠ k := fun w => y (h.2 i i0 (by omega) hi (w.trans hk.symm))
        simpa using this
  · by_cases z : i = i0 <;> by_cases y : j = i0
    · omega
    · rw [z, up_s, up_n _ _ y] at e; have := h.2 (n - 1) j (by omega) (by omega) e; omega
    · rw [y, up_s, up_n _ _ z] at e; have := h.2 i (n - 1) (by omega) (by omega) e; omega
    · rw [up_n _ _ z, up_n _ _ y] at e; exact h.2 i j (by omega) (by omega) e
theorem KS.add {E : List Nat} {sto : Nat → Nat} {n k : Nat} (h : KS E sto n) (hk : ∀ i, i < n → sto i ≠ k) : KS (E ++ [k]) (va_up sto n k) (n + 1) := by
  have hn : k ∉ E := fun q => by obtain ⟨i, hi, e⟩ := (h.2 k).mp q; exact hk i hi e
  refine ⟨?_, fun q => ?_⟩
  · rw [List.nodup_append]
    exact ⟨h.1, by simp, fun a ha b hb => by rw [List.mem_singleton.mp hb]; exact fun y => hn (y ▸ ha)⟩
  · rw [List.mem_append, List.mem_singleton, h.2]
    constructor
    · rintro (⟨i, hi, e⟩ | rfl)
      · exact ⟨i, by omega, by rw [up_n _ _ (by omega)]; exact e⟩
      · exact ⟨n, by omega, up_s _ _ _⟩
    · rintro ⟨i, hi, e⟩
      by_cases z : i = n
      · rw [z, up_s] at e; exact Or.inr e.symm
      · rw [up_n _ _ z] at e; exact Or.inl ⟨i, by omega, e⟩
theorem KS.rem {E : List Nat} {sto : Nat → Nat} {n k i0 : Nat} (h : KS E sto n) (hinj : ∀ i j, i < n → j < n → sto i = sto j → i = j) (hi : i0 < n) (hk : sto i0 = k) : KS (E.filter (· != k)) (va_up sto i0 (sto (n - 1))) (n - 1) ∧ (E.filter (· != k)).length = E.length - 1 := by
  refine ⟨⟨h.1.filter _, fun q => ?_⟩, ?_⟩
  · rw [List.mem_filter, h.2]
    constructor
    · rintro ⟨⟨i, hi2, e⟩, z⟩
      have z2 : q ≠ k := by simpa using z
      by_cases y : i = n - 1
      · refine ⟨i0, ?_, by rw [up_s, ← y]; exact e⟩
        rcases Nat.lt_or_ge i0 (n - 1) with w | w
        · exact w
        · exact absurd (by rw [← e, y, ← hk, show i0 = n - 1 from by omega]) z2
      · exact ⟨i, by omega, by rw [up_n _ _ (fun w => z2 (by rw [← e, w, hk]))]; exact e⟩
    · rintro ⟨i, hi2, e⟩
      by_cases y : i = i0
      · rw [y, up_s] at e
        refine ⟨⟨n - 1, by omega, e⟩, ?_⟩
        have : q ≠ k := fun w => by have := hinj (n - 1) i0 (by omega) hi (by rw [e, w, hk]); omega
        simpa using this
      · rw [up_n _ _ y] at e
        refine ⟨⟨i, by omega, e⟩, ?_⟩
        have : q ≠ k := fun w => y (hinj i i0 (by omega) hi (by rw [e, w, hk]))
        simpa using this
  · rw [← h.1.erase_eq_filter, List.length_erase_of_mem ((h.2 k).mpr ⟨i0, hi, hk⟩)]
theorem split_nodup {E : List Nat} {p : Nat → Bool} (h : E.Nodup) : (E.filter (fun k => !p k) ++ E.filter p).Nodup := by
  rw [List.nodup_append]
  refine ⟨h.filter _, h.filter _, fun a ha b hb e => ?_⟩
  have h1 := (List.mem_filter.mp ha).2
  have h2 := (List.mem_filter.mp hb).2
  rw [e, h2] at h1
  exact absurd h1 (by decide)
theorem mS_nodup {cap x : Nat} : ∀ {k : Nat} {X : (Nat → Nat) × List Nat × Int32}, X.2.1.Nodup → (mS cap x k X).2.1.Nodup
  | 0, _, h => h
  | k + 1, X, h => by
    show (if mcond cap x X = true then mS cap x k (mstep x X) else X).2.1.Nodup
    split
    · exact mS_nodup (k := k) (split_nodup h)
    · exact h
theorem lB_nodup {cap lo n : Nat} : ∀ {k : Nat} {X : List Nat × Nat × Nat × Int32}, X.1.Nodup → (lB cap lo n k X).1.Nodup
  | 0, _, h => h
  | k + 1, X, h => by
    show (if bcond cap lo n X = true then lB cap lo n k (bstep X) else X).1.Nodup
    split
    · exact lB_nodup (k := k) (split_nodup h)
    · exact h
/-- one step of sorting by choosing the least -/
theorem sel_step {sto vas : Nat → Nat} {n j t : Nat} {S : List (Nat × Nat)} (h : PM sto vas n S) (hS : SS S) (hn : S.length = n) (hpre : ∀ i, i < j → (sto i, vas i) = S.getD i (0, 0)) (hj : j < n) (ht1 : j ≤ t) (ht2 : t < n) (hmin : ∀ i, j ≤ i → i < n → sto t ≤ sto i) :
    (sto t, vas t) = S.getD j (0, 0) ∧ PM (va_up (va_up sto t (sto j)) j (sto t)) (va_up (va_up vas t (vas j)) j (vas t)) n S ∧ ∀ i, i < j + 1 → (va_up (va_up sto t (sto j)) j (sto t) i, va_up (va_up vas t (vas j)) j (vas t) i) = S.getD i (0, 0) := by
  have hsrt : ∀ a b, a < b → b < n → (S.getD a (0, 0)).1 < (S.getD b (0, 0)).1 := fun a b hab hb => by
    have := List.pairwise_iff_getElem.mp hS a b (by omega) (by omega) hab
    rw [List.getD_eq_getElem?_getD, List.getD_eq_getElem?_getD, List.getElem?_eq_getElem (by omega), List.getElem?_eq_getElem (by omega)]
    exact this
  have hmemS : ∀ a, a < n → S.getD a (0, 0) ∈ S := fun a ha => by
    rw [List.getD_eq_getElem?_getD, List.getElem?_eq_getElem (by omega)]
    exact List.getElem_mem _
  have hfind : ∀ q, q ∈ S → ∃ a, a < n ∧ S.getD a (0, 0) = q := fun q hq => by
    obtain ⟨a, ha, e⟩ := List.mem_iff_getElem.mp hq
    exact ⟨a, by omega, by rw [List.getD_eq_getElem?_getD, List.getElem?_eq_getElem ha]; exact e⟩
  have key1 : (sto t, vas t) = S.getD j (0, 0) := by
    obtain ⟨i, hi, e⟩ := (h.1 _).mp (hmemS j hj)
    have hij : j ≤ i := by
      rcases Nat.lt_or_ge i j with q | q
      · have e2 := hpre i q
        rw [e] at e2
        have := hsrt i j q hj
        rw [← e2] at this
        omega
      · exact q
    have h1 : sto t ≤ (S.getD j (0, 0)).1 := by rw [← e]; exact hmin i hij hi
    obtain ⟨a, ha, ea⟩ := hfind (sto t, vas t) ((h.1 _).mpr ⟨t, ht2, rfl⟩)
    have haj : j ≤ a := by
      rcases Nat.lt_or_ge a j with q | q
      · have e2 := hpre a q
        rw [ea] at e2
        have := h.2 a t (by omega) ht2 (congrArg Prod.fst e2)
        omega
      · exact q
    rcases Nat.lt_or_eq_of_le haj with q | q
    · have := hsrt j a q ha
      rw [ea] at this
      have h9 : (S.getD j (0, 0)).1 < sto t := this
      omega
    · rw [q]; exact ea.symm
  have cas : ∀ i, i < n → (va_up (va_up sto t (sto j)) j (sto t) i, va_up (va_up vas t (vas j)) j (vas t) i) = if i = j then (sto t, vas t) else if i = t then (sto j, vas j) else (sto i, vas i) := fun i hi => by
    by_cases z : i = j
    · rw [if_pos z, z, up_s, up_s]
    · rw [if_neg z, up_n _ _ z, up_n _ _ z]
      by_cases y : i = t
      · rw [if_pos y, y, up_s, up_s]
      · rw [if_neg y, up_n _ _ y, up_n _ _ y]
  have ind : ∀ i, i < n → ∃ i2, i2 < n ∧ (va_up (va_up sto t (sto j)) j (sto t) i, va_up (va_up vas t (vas j)) j (vas t) i) = (sto i2, vas i2) ∧ ((i = j ∧ i2 = t) ∨ (i ≠ j ∧ i = t ∧ i2 = j) ∨ (i ≠ j ∧ i ≠ t ∧ i2 = i)) := fun i hi => by
    rw [cas i hi]
    by_cases z : i = j
    · exact ⟨t, ht2, if_pos z, Or.inl ⟨z, rfl⟩⟩
    · rw [if_neg z]
      by_cases y : i = t
      · exact ⟨j, hj, if_pos y, Or.inr (Or.inl ⟨z, y, rfl⟩)⟩
      · exact ⟨i, hi, if_neg y, Or.inr (Or.inr ⟨z, y, rfl⟩)⟩
  refine ⟨key1, ⟨fun q => ?_, fun i1 i2 h1 h2 e => ?_⟩, fun i hi => ?_⟩
  · rw [h.1]
    constructor
    · rintro ⟨i, hi, rfl⟩
      by_cases z : i = t
      · exact ⟨j, hj, by rw [cas j hj, if_pos rfl, z]⟩
      · by_cases y : i = j
        · refine ⟨t, ht2, ?_⟩
          rw [cas t ht2, if_neg (by omega), if_pos rfl, y]
        · exact ⟨i, hi, by rw [cas i hi, if_neg y, if_neg z]⟩
    · rintro ⟨i, hi, rfl⟩
      obtain ⟨i2, a, b, -⟩ := ind i hi
      exact ⟨i2, a, b.symm⟩
  · obtain ⟨a, a1, a2, a3⟩ := ind i1 h1
    obtain ⟨b, b1, b2, b3⟩ := ind i2 h2
    have e1 : sto a = sto b := by
      have := congrArg Prod.fst a2
      have h4 := congrArg Prod.fst b2
      dsimp only at this h4
      rw [← this, ← h4]; exact e
    have := h.2 a b a1 b1 e1
    omega
  · rw [cas i (by omega)]
    by_cases z : i = j
    · rw [if_pos z, z]; exact key1
    · rw [if_neg z, if_neg (by omega)]
      exact hpre i (by omega)
