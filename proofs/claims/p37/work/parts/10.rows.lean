/-! chains: the entries of a row, each pointing to the next, the last one to z -/
def Cs (ne : Nat → Nat) : List Nat → Nat → Prop
  | [], _ => True
  | e :: L, z => ne e = L.headD z ∧ Cs ne L z
theorem Cs_congr {ne ne' : Nat → Nat} : ∀ {L : List Nat} {z : Nat}, (∀ e ∈ L, ne' e = ne e) → Cs ne L z → Cs ne' L z
  | [], _, _, _ => trivial
  | e :: L, z, h, hc => ⟨by rw [h e List.mem_cons_self]; exact hc.1, Cs_congr (fun e he => h e (List.mem_cons_of_mem _ he)) hc.2⟩
theorem Cs_append {ne : Nat → Nat} : ∀ {P Q : List Nat} {z : Nat}, Cs ne (P ++ Q) z ↔ Cs ne P (Q.headD z) ∧ Cs ne Q z
  | [], Q, z => ⟨fun h => ⟨trivial, h⟩, fun h => h.2⟩
  | [e], Q, z => by
    constructor
    · intro h; exact ⟨⟨h.1, trivial⟩, h.2⟩
    · intro h; exact ⟨h.1.1, h.2⟩
  | e :: f :: P, Q, z => by
    have ih := Cs_append (ne := ne) (P := f :: P) (Q := Q) (z := z)
    constructor
    · intro h; exact ⟨⟨h.1, (ih.mp h.2).1⟩, (ih.mp h.2).2⟩
    · intro h; exact ⟨h.1.1, ih.mpr ⟨h.1.2, h.2⟩⟩
theorem Cs_at {ne : Nat → Nat} : ∀ {L : List Nat} {z : Nat} (_ : Cs ne L z) (i : Nat), i < L.length → ne (L.getD i 0) = L.getD (i + 1) z
  | [], _, _, i, hi => absurd hi (Nat.not_lt_zero _)
  | e :: L, z, h, 0, _ => by
    have h1 := h.1
    cases L <;> simpa using h1
  | e :: L, z, h, i + 1, hi => by
    have := Cs_at h.2 i (by simpa using hi)
    simpa using this
def nx (ne : Nat → Nat) (e : Nat) : Nat := if e = 0 then 0 else ne e
/-- the rows of one table -/
def RR (fi la co ne : Nat → Nat) (rows : Nat → List Nat) : Prop :=
  (∀ r, r < 256 → co r = (rows r).length ∧ fi r = (rows r).headD 0 ∧ la r = (rows r).getLastD 0 ∧ Cs ne (rows r) 0 ∧ (∀ e ∈ rows r, 1 ≤ e ∧ e ≤ 120) ∧ (rows r).Nodup) ∧ ∀ r r', r < 256 → r' < 256 → r ≠ r' → ∀ e ∈ rows r, e ∉ rows r'
theorem nodup_len : ∀ (n : Nat) (L : List Nat), L.Nodup → (∀ e ∈ L, e < n) → L.length ≤ n
  | 0, [], _, _ => Nat.le_refl 0
  | 0, e :: L, _, h => absurd (h e List.mem_cons_self) (Nat.not_lt_zero _)
  | n + 1, L, hn, h => by
    by_cases hm : n ∈ L
    · have h1 := nodup_len n (L.erase n) (hn.erase n) (fun e he => by
        have h2 := h e (List.mem_of_mem_erase he)
        have h3 : e ≠ n := ((List.Nodup.mem_erase_iff hn).mp he).1
        omega)
      rw [List.length_erase_of_mem hm] at h1
      omega
    · have h1 := nodup_len n L hn (fun e he => by
        have h2 := h e he
        have h3 : e ≠ n := fun q => hm (q ▸ he)
        omega)
      omega
theorem RR.len {fi la co ne : Nat → Nat} {rows : Nat → List Nat} (h : RR fi la co ne rows) {r : Nat} (hr : r < 256) : (rows r).length ≤ 120 := by
  have h1 := h.1 r hr
  have h2 := nodup_len 121 (0 :: rows r) (List.nodup_cons.mpr ⟨fun h0 => by have := (h1.2.2.2.2.1 0 h0).1; omega, h1.2.2.2.2.2⟩) (fun e he => by
    rcases List.mem_cons.mp he with rfl | he
    · omega
    · have := (h1.2.2.2.2.1 e he).2; omega)
  simpa using h2
theorem RR.congr {fi la co ne : Nat → Nat} {rows rows' : Nat → List Nat} (h : RR fi la co ne rows) (e : ∀ r, r < 256 → rows' r = rows r) : RR fi la co ne rows' := by
  refine ⟨fun r hr => ?_, fun r r' hr hr' hne x hx => ?_⟩
  · rw [e r hr]; exact h.1 r hr
  · rw [e r hr] at hx; rw [e r' hr']; exact h.2 r r' hr hr' hne x hx
theorem getD_ge {L : List Nat} {i d : Nat} (h : L.length ≤ i) : L.getD i d = d := by simp [List.getD_eq_getElem?_getD, List.getElem?_eq_none h]
theorem RR.nxt {fi la co ne : Nat → Nat} {rows : Nat → List Nat} (h : RR fi la co ne rows) {r : Nat} (hr : r < 256) (i : Nat) : nx ne ((rows r).getD i 0) = (rows r).getD (i + 1) 0 := by
  have h1 := h.1 r hr
  unfold nx
  by_cases hi : i < (rows r).length
  · have h2 : (rows r).getD i 0 ∈ rows r := by
      rw [List.getD_eq_getElem?_getD, List.getElem?_eq_getElem hi]
      exact List.getElem_mem hi
    have h3 := (h1.2.2.2.2.1 _ h2).1
    rw [if_neg (by omega), Cs_at h1.2.2.2.1 i hi]
  · rw [getD_ge (by omega), getD_ge (by omega)]
    simp
theorem RR.get {fi la co ne : Nat → Nat} {rows : Nat → List Nat} (h : RR fi la co ne rows) {r : Nat} (hr : r < 256) (i : Nat) : (rows r).getD i 0 ≤ 120 ∧ (i < (rows r).length → 1 ≤ (rows r).getD i 0 ∧ (rows r).getD i 0 ∈ rows r) := by
  have h1 := h.1 r hr
  by_cases hi : i < (rows r).length
  · have h2 : (rows r).getD i 0 ∈ rows r := by
      rw [List.getD_eq_getElem?_getD, List.getElem?_eq_getElem hi]
      exact List.getElem_mem hi
    exact ⟨(h1.2.2.2.2.1 _ h2).2, fun _ => ⟨(h1.2.2.2.2.1 _ h2).1, h2⟩⟩
  · rw [getD_ge (by omega)]
    exact ⟨by omega, fun q => absurd q hi⟩
theorem up_s {α : Type} (f : Nat → α) (k : Nat) (v : α) : va_up f k v k = v := by simp [va_up]
theorem up_n {α : Type} (f : Nat → α) {k j : Nat} (v : α) (h : j ≠ k) : va_up f k v j = f j := by simp [va_up, h]
theorem getLastD_mem : ∀ {L : List Nat} {d : Nat}, L ≠ [] → L.getLastD d ∈ L := by
  intro L d h
  rcases List.eq_nil_or_concat L with rfl | ⟨P, x, rfl⟩
  · exact absurd rfl h
  · simp
/-- a row is emptied -/
theorem RR.empty {fi la co ne : Nat → Nat} {rows : Nat → List Nat} (h : RR fi la co ne rows) (row : Nat) : RR (va_up fi row 0) (va_up la row 0) (va_up co row 0) ne (va_up rows row []) := by
  refine ⟨fun r hr => ?_, fun r r' hr hr' hne x hx => ?_⟩
  · by_cases q : r = row
    · subst q
      simp [up_s, Cs]
    · rw [up_n _ _ q, up_n _ _ q, up_n _ _ q, up_n _ _ q]
      exact h.1 r hr
  · by_cases q : r = row
    · subst q
      simp [up_s] at hx
    · rw [up_n _ _ q] at hx
      by_cases q' : r' = row
      · subst q'
        simp [up_s]
      · rw [up_n _ _ q']
        exact h.2 r r' hr hr' hne x hx
/-- an entry comes behind a row's last one -/
theorem RR.append {fi la co ne : Nat → Nat} {rows : Nat → List Nat} (h : RR fi la co ne rows) {row en : Nat} (hr : row < 256) (h1 : 1 ≤ en) (h2 : en ≤ 120) (hf : ∀ r, r < 256 → en ∉ rows r) :
    (la row = 0 → RR (va_up fi row en) (va_up la row en) (va_up co row (co row + 1)) (va_up ne en 0) (va_up rows row (rows row ++ [en]))) ∧
    (la row ≠ 0 → 1 ≤ la row ∧ la row ≤ 120 ∧ la row ∈ rows row ∧ RR fi (va_up la row en) (va_up co row (co row + 1)) (va_up (va_up ne (la row) en) en 0) (va_up rows row (rows row ++ [en]))) := by
  obtain ⟨g1, g2, g3, g4, g5, g6⟩ := h.1 row hr
  have apart : ∀ r r', r < 256 → r' < 256 → r ≠ r' → ∀ e ∈ va_up rows row (rows row ++ [en]) r, e ∉ va_up rows row (rows row ++ [en]) r' := by
    intro r r' hr1 hr2 hne x hx
    by_cases q : r = row
    · rw [q, up_s] at hx
      have q' : r' ≠ row := fun z => hne (q.trans z.symm)
      rw [up_n _ _ q']
      rcases List.mem_append.mp hx with hx | hx
      · exact h.2 row r' hr hr2 (fun z => q' z.symm) x hx
      · rw [List.mem_singleton.mp hx]; exact hf r' hr2
    · rw [up_n _ _ q] at hx
      by_cases q' : r' = row
      · rw [q', up_s]
        intro hm
        rcases List.mem_append.mp hm with hm | hm
        · exact h.2 r row hr1 hr q x hx hm
        · rw [List.mem_singleton.mp hm] at hx; exact hf r hr1 hx
      · rw [up_n _ _ q']
        exact h.2 r r' hr1 hr2 hne x hx
  have nd : (rows row ++ [en]).Nodup := by
    rw [List.nodup_append]
    exact ⟨g6, by simp, fun a ha b hb => by rw [List.mem_singleton.mp hb]; exact fun q => hf row hr (q ▸ ha)⟩
  have rng : ∀ e ∈ rows row ++ [en], 1 ≤ e ∧ e ≤ 120 := fun e he => by
    rcases List.mem_append.mp he with he | he
    · exact g5 e he
    · rw [List.mem_singleton.mp he]; exact ⟨h1, h2⟩
  rcases List.eq_nil_or_concat (rows row) with hL | ⟨P, x, hL⟩
  · refine ⟨fun _ => ⟨fun r hr1 => ?_, apart⟩, fun hz => absurd (by rw [g3, hL]; rfl) hz⟩
    by_cases q : r = row
    · subst q
      rw [up_s, up_s, up_s, up_s]
      refine ⟨by rw [g1, hL]; rfl, by rw [hL]; rfl, by rw [hL]; rfl, by rw [hL]; exact ⟨up_s _ _ _, trivial⟩, rng, nd⟩
    · rw [up_n _ _ q, up_n _ _ q, up_n _ _ q, up_n _ _ q]
      obtain ⟨k1, k2, k3, k4, k5, k6⟩ := h.1 r hr1
      exact ⟨k1, k2, k3, Cs_congr (fun e he => up_n _ _ (fun z => hf r hr1 (z ▸ he))) k4, k5, k6⟩
  · have hx : la row = x := by rw [g3, hL]; simp
    have hxm : x ∈ rows row := by rw [hL]; simp
    refine ⟨fun hz => absurd (hx.symm.trans hz) (by have := (g5 x hxm).1; omega), fun _ => ⟨by rw [hx]; exact (g5 x hxm).1, by rw [hx]; exact (g5 x hxm).2, by rw [hx]; exact hxm, fun r hr1 => ?_, apart⟩⟩
    have hxe : x ≠ en := fun z => hf row hr (z ▸ hxm)
    rw [hx]
    by_cases q : r = row
    · subst q
      rw [up_s, up_s, up_s]
      refine ⟨by rw [g1]; simp, ?_, by simp, ?_, rng, nd⟩
      · rw [g2, hL]; cases P <;> simp
      · rw [Cs_append]
        refine ⟨?_, up_s _ _ _, trivial⟩
        rw [hL, List.concat_eq_append] at g4 g6 ⊢
        rw [Cs_append] at g4 ⊢
        refine ⟨Cs_congr (fun e he => ?_) g4.1, ?_, trivial⟩
        · have hex : e ≠ x := by
            rw [List.nodup_append] at g6
            exact g6.2.2 e he x (by simp)
          have hee : e ≠ en := fun z => hf r hr (by rw [hL, ← z]; simp [he])
          rw [up_n _ _ hee, up_n _ _ hex]
        · rw [up_n _ _ hxe, up_s]; rfl
    · rw [up_n _ _ q, up_n _ _ q, up_n _ _ q]
      obtain ⟨k1, k2, k3, k4, k5, k6⟩ := h.1 r hr1
      refine ⟨k1, k2, k3, Cs_congr (fun e he => ?_) k4, k5, k6⟩
      rw [up_n _ _ (fun z : e = en => hf r hr1 (z ▸ he)), up_n _ _ (fun z : e = x => h.2 r row hr1 hr q e he (z ▸ hxm))]

theorem getLastD_ne {P Q : List Nat} {d : Nat} (h : Q ≠ []) : (P ++ Q).getLastD d = Q.getLastD d := by
  rcases List.eq_nil_or_concat Q with z | ⟨Q', y, rfl⟩
  · exact absurd z h
  · rw [List.concat_eq_append, ← List.append_assoc]; simp
theorem filter_ne_self {L : List Nat} {en : Nat} (h : en ∉ L) : L.filter (· != en) = L := by
  rw [List.filter_eq_self]
  intro a ha
  simp only [bne_iff_ne, ne_eq]
  exact fun q => h (q ▸ ha)
/-- what entryBefore answers: P's last one -/
theorem RR.split {fi la co ne : Nat → Nat} {rows : Nat → List Nat} (h : RR fi la co ne rows) {row en : Nat} (hr : row < 256) (hm : en ∈ rows row) :
    ∃ P Q : List Nat, rows row = P ++ en :: Q ∧ en ∉ P ∧ en ∉ Q ∧ (rows row).filter (· != en) = P ++ Q := by
  obtain ⟨P, Q, hL⟩ := List.append_of_mem hm
  have h6 := (h.1 row hr).2.2.2.2.2
  rw [hL] at h6
  rw [List.nodup_append, List.nodup_cons] at h6
  have hP : en ∉ P := fun q => h6.2.2 en q en List.mem_cons_self rfl
  refine ⟨P, Q, hL, hP, h6.2.1.1, ?_⟩
  rw [hL, List.filter_append, filter_ne_self hP, List.filter_cons_of_neg (by simp), filter_ne_self h6.2.1.1]
/-- an entry is taken out of its row: pv is the one before it, 0 if none -/
theorem RR.unlink {fi la co ne : Nat → Nat} {rows : Nat → List Nat} (h : RR fi la co ne rows) {row en : Nat} (hr : row < 256) (P Q : List Nat) (hL : rows row = P ++ en :: Q) (hP : en ∉ P) (hQ : en ∉ Q) :
    (P = [] → RR (va_up fi row (ne en)) (if Q = [] then va_up la row (P.getLastD 0) else la) (va_up co row (co row - 1)) ne (fun r => (rows r).filter (· != en))) ∧
    (P ≠ [] → RR fi (if Q = [] then va_up la row (P.getLastD 0) else la) (va_up co row (co row - 1)) (va_up ne (P.getLastD 0) (ne en)) (fun r => (rows r).filter (· != en))) ∧ (la row = en ↔ Q = []) := by
  obtain ⟨g1, g2, g3, g4, g5, g6⟩ := h.1 row hr
  have hff : (rows row).filter (· != en) = P ++ Q := by
    rw [hL, List.filter_append, filter_ne_self hP, List.filter_cons_of_neg (by simp), filter_ne_self hQ]
  have hoth : ∀ r, r < 256 → r ≠ row → (rows r).filter (· != en) = rows r := fun r h1 h2 => filter_ne_self (fun q => h.2 row r hr h1 (fun z => h2 z.symm) en (by rw [hL]; simp) q)
  have apart : ∀ r r', r < 256 → r' < 256 → r ≠ r' → ∀ e ∈ (rows r).filter (· != en), e ∉ (rows r').filter (· != en) := fun r r' h1 h2 h3 e he hm =>
    h.2 r r' h1 h2 h3 e (List.mem_filter.mp he).1 (List.mem_filter.mp hm).1
  have h4 := g4
  rw [hL, Cs_append] at h4
  have hne : ne en = Q.headD 0 := h4.2.1
  have hlen : co row - 1 = (P ++ Q).length := by rw [g1, hL]; simp
  have nd : (P ++ Q).Nodup := by rw [← hff]; exact g6.filter _
  have rng : ∀ e ∈ P ++ Q, 1 ≤ e ∧ e ≤ 120 := fun e he => g5 e (by rw [← hff] at he; exact (List.mem_filter.mp he).1)
  have hlast : (if Q = [] then va_up la row (P.getLastD 0) else la) row = (P ++ Q).getLastD 0 := by
    by_cases q : Q = []
    · rw [if_pos q, up_s, q, List.append_nil]
    · rw [if_neg q, g3, hL]
      rw [getLastD_ne (List.cons_ne_nil _ _), getLastD_ne q, show en :: Q = [en] ++ Q from rfl, getLastD_ne q]
  have hlao : ∀ r, r ≠ row → (if Q = [] then va_up la row (P.getLastD 0) else la) r = la r := fun r h1 => by
    by_cases q : Q = []
    · rw [if_pos q, up_n _ _ h1]
    · rw [if_neg q]
  have hiff : la row = en ↔ Q = [] := by
    rw [g3, hL]
    constructor
    · intro z
      by_cases q : Q = []
      · exact q
      · exfalso
        rw [getLastD_ne (List.cons_ne_nil _ _), show en :: Q = [en] ++ Q from rfl, getLastD_ne q] at z
        exact hQ (by rw [← z]; exact getLastD_mem q)
    · rintro rfl; simp
  refine ⟨fun hp => ⟨fun r hr1 => ?_, apart⟩, fun hp => ⟨fun r hr1 => ?_, apart⟩, hiff⟩
  · by_cases q : r = row
    · subst q
      dsimp only
      rw [up_s, up_s, hff, hlast]
      refine ⟨hlen, by rw [hne, hp]; rfl, rfl, ?_, rng, nd⟩
      rw [hp]; exact h4.2.2
    · rw [up_n _ _ q, up_n _ _ q, hlao r q]
      show _ = ((rows r).filter (· != en)).length ∧ _ = ((rows r).filter (· != en)).headD 0 ∧ _ = ((rows r).filter (· != en)).getLastD 0 ∧ Cs ne ((rows r).filter (· != en)) 0 ∧ _ ∧ ((rows r).filter (· != en)).Nodup
      rw [hoth r hr1 q]
      refine ⟨(h.1 r hr1).1, (h.1 r hr1).2.1, (h.1 r hr1).2.2.1, (h.1 r hr1).2.2.2.1, fun e he => (h.1 r hr1).2.2.2.2.1 e (List.mem_filter.mp he).1, (h.1 r hr1).2.2.2.2.2⟩
  · rcases List.eq_nil_or_concat P with z | ⟨P', b, hb⟩
    · exact absurd z hp
    have hbl : P.getLastD 0 = b := by rw [hb]; simp
    have hbm : b ∈ rows row := by rw [hL, hb]; simp
    by_cases q : r = row
    · subst q
      dsimp only
      rw [up_s, hff, hlast]
      refine ⟨hlen, ?_, rfl, ?_, rng, nd⟩
      · rw [g2, hL]
        cases P with
        | nil => exact absurd rfl hp
        | cons x P2 => simp
      · rw [hbl, hb, List.concat_eq_append, Cs_append, Cs_append]
        rw [hb, List.concat_eq_append] at h4 nd
        rw [Cs_append] at h4
        rw [List.nodup_append, List.nodup_append] at nd
        refine ⟨⟨Cs_congr (fun e he => up_n _ _ (fun z : e = b => ?_)) h4.1.1, ?_, trivial⟩, Cs_congr (fun e he => up_n _ _ (fun z : e = b => ?_)) h4.2.2⟩
        · exact nd.1.2.2 e he b (by simp) z
        · rw [up_s, hne]; rfl
        · exact nd.2.2 b (by simp) e he z.symm
    · rw [up_n _ _ q, hlao r q]
      show _ = ((rows r).filter (· != en)).length ∧ _ = ((rows r).filter (· != en)).headD 0 ∧ _ = ((rows r).filter (· != en)).getLastD 0 ∧ Cs _ ((rows r).filter (· != en)) 0 ∧ _ ∧ ((rows r).filter (· != en)).Nodup
      rw [hoth r hr1 q, hbl]
      refine ⟨(h.1 r hr1).1, (h.1 r hr1).2.1, (h.1 r hr1).2.2.1, Cs_congr (fun e he => up_n _ _ (fun z : e = b => ?_)) (h.1 r hr1).2.2.2.1, fun e he => (h.1 r hr1).2.2.2.2.1 e (List.mem_filter.mp he).1, (h.1 r hr1).2.2.2.2.2⟩
      exact h.2 r row hr1 hr q e he (z ▸ hbm)
theorem headD_getD {L : List Nat} : L.headD 0 = L.getD 0 0 := by cases L <;> rfl
theorem RR.fst {fi la co ne : Nat → Nat} {rows : Nat → List Nat} (h : RR fi la co ne rows) {r : Nat} (hr : r < 256) : fi r = (rows r).getD 0 0 := by rw [(h.1 r hr).2.1, headD_getD]
theorem tq_neg1 {i : Nat} (h : i < 2 ^ 31) : ¬ nI i = -1 := fun q => nI_pos h (by rw [q]; decide)
theorem mem_getD {L : List Nat} {x : Nat} (h : x ∈ L) : ∃ j, j < L.length ∧ L.getD j 0 = x := by
  obtain ⟨j, hj, e⟩ := List.mem_iff_getElem.mp h
  exact ⟨j, hj, by rw [List.getD_eq_getElem?_getD, List.getElem?_eq_getElem hj]; exact e⟩
theorem getD_mem {L : List Nat} {i : Nat} (h : i < L.length) : L.getD i 0 ∈ L := by
  rw [List.getD_eq_getElem?_getD, List.getElem?_eq_getElem h]
  exact List.getElem_mem h
theorem getD_left {P Q : List Nat} {i : Nat} (h : i < P.length) : (P ++ Q).getD i 0 = P.getD i 0 := by
  rw [List.getD_eq_getElem?_getD, List.getD_eq_getElem?_getD, List.getElem?_append_left h]
theorem take_last {P : List Nat} {i : Nat} (h : i < P.length) : (P.take (i + 1)).getLastD 0 = P.getD i 0 := by
  have h1 : P.take (i + 1) = P.take i ++ [P.getD i 0] := by
    rw [List.getD_eq_getElem?_getD, List.getElem?_eq_getElem h]
    exact List.take_succ_eq_append_getElem h
  rw [h1]
  simp
