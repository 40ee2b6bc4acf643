/-! a list of keys, dealt by a function to rows: a row is split, two rows merge -/
theorem split_filter {E : List Nat} {f f' t : Nat → Nat} {row r2 : Nat} (h1 : ∀ k, f' k = if f k = row then t k else f k) (h2 : ∀ k, t k = row ∨ t k = r2) (h3 : ∀ k, f k ≠ r2) (r : Nat) :
    (if r = row then [] else E.filter (fun k => f k == r)) ++ (E.filter (fun k => f k == row)).filter (fun k => t k == r) = E.filter (fun k => f' k == r) := by
  have e1 : (E.filter (fun k => f k == row)).filter (fun k => t k == r) = E.filter (fun k => f k == row && t k == r) := by
    rw [List.filter_filter]
    exact List.filter_congr (fun k _ => Bool.and_comm _ _)
  rw [e1]
  by_cases q : r = row
  · rw [if_pos q, List.nil_append]
    refine List.filter_congr (fun k _ => ?_)
    rw [h1 k]
    by_cases z : f k = row
    · simp [z]
    · rw [if_neg z]
      have a : (f k == row) = false := by simpa using z
      have b : (f k == r) = false := by rw [q]; exact a
      rw [a, b]; rfl
  · rw [if_neg q]
    by_cases q2 : r = r2
    · have e2 : E.filter (fun k => f k == r) = [] := by
        rw [List.filter_eq_nil_iff]
        intro k _
        rw [q2]
        simpa using h3 k
      rw [e2, List.nil_append]
      refine List.filter_congr (fun k _ => ?_)
      rw [h1 k]
      by_cases z : f k = row
      · simp [z]
      · rw [if_neg z]
        have a : (f k == row) = false := by simpa using z
        have b : (f k == r) = false := by rw [q2]; simpa using h3 k
        rw [a, b]; rfl
    · have e2 : E.filter (fun k => f k == row && t k == r) = [] := by
        rw [List.filter_eq_nil_iff]
        intro k _
        have a : (t k == r) = false := by
          rcases h2 k with h | h <;> rw [h]
          · simpa using fun y : row = r => q y.symm
          · simpa using fun y : r2 = r => q2 y.symm
        rw [a, Bool.and_false]; decide
      rw [e2, List.append_nil]
      refine List.filter_congr (fun k _ => ?_)
      rw [h1 k]
      by_cases z : f k = row
      · rw [if_pos z, z]
        have a : (row == r) = false := by simpa using fun y => q y.symm
        have b : (t k == r) = false := by
          rcases h2 k with h | h <;> rw [h]
          · exact a
          · simpa using fun y => q2 y.symm
        rw [a, b]
      · rw [if_neg z]
theorem merge_filter {E : List Nat} {f f' : Nat → Nat} {row r2 : Nat} (h1 : ∀ k, f' k = if f k = r2 then row else f k) (hne : row ≠ r2) (r : Nat) :
    (if r = r2 then [] else E.filter (fun k => f k == r)) ++ (if row = r then E.filter (fun k => f k == r2) else []) = (E.filter (fun k => !(f k == r2)) ++ E.filter (fun k => f k == r2)).filter (fun k => f' k == r) := by
  rw [List.filter_append, List.filter_filter, List.filter_filter]
  congr 1
  · by_cases q : r = r2
    · rw [if_pos q]
      symm
      rw [List.filter_eq_nil_iff]
      intro k _
      rw [h1 k]
      by_cases z : f k = r2
      · simp [z]
      · rw [if_neg z, q]
        have a : (f k == r2) = false := by simpa using z
        rw [a]; simp
    · rw [if_neg q]
      refine List.filter_congr (fun k _ => ?_)
      rw [h1 k]
      by_cases z : f k = r2
      · have a : (r2 == r) = false := by simpa using fun y => q y.symm
        simp [z, a]
      · rw [if_neg z]
        have a : (f k == r2) = false := by simpa using z
        rw [a]; simp
  · by_cases q : row = r
    · rw [if_pos q]
      refine List.filter_congr (fun k _ => ?_)
      rw [h1 k]
      by_cases z : f k = r2
      · simp [z, q]
      · have a : (f k == r2) = false := by simpa using z
        rw [a]; simp
    · rw [if_neg q]
      symm
      rw [List.filter_eq_nil_iff]
      intro k _
      rw [h1 k]
      by_cases z : f k = r2
      · have a : (row == r) = false := by simpa using q
        simp [z, a]
      · have a : (f k == r2) = false := by simpa using z
        rw [a]; simp
/-! the extendible table -/
def rowOf (dep : Nat → Nat) (k : Nat) : Nat := hs k % 2 ^ dep (hs k % 256)
def cntB (E : List Nat) (x b : Nat) : Nat := (E.filter (fun k => hs k % 2 ^ b == x % 2 ^ b)).length
def deepen (dep : Nat → Nat) (x b t : Nat) : Nat → Nat := fun q => if q % 2 ^ b = x % 2 ^ b then t else dep q
def XOK (dep : Nat → Nat) (g : Nat) : Prop := g ≤ 8 ∧ (∀ q, q < 256 → dep q ≤ g) ∧ ∀ q r, q < 256 → r < 256 → q % 2 ^ dep q = r % 2 ^ dep q → dep r = dep q
def XR (key ldp : Nat → Nat) (dp : Nat) (efi ela eco ene : Nat → Nat) (rows : Nat → List Nat) (dep : Nat → Nat) (E : List Nat) (US : Nat → Prop) : Prop :=
  RR efi ela eco ene rows ∧ XOK dep dp ∧ (∀ q, q < 2 ^ dp → ldp q = dep q) ∧ (∀ q, q < 256 → ldp q ≤ 8) ∧ (∀ r, r < 256 → (rows r).map key = E.filter (fun k => rowOf dep k == r)) ∧ ∀ r, r < 256 → ∀ e ∈ rows r, US e
theorem mmp (x : Nat) {a b : Nat} (h : b ≤ a) : x % 2 ^ a % 2 ^ b = x % 2 ^ b := Nat.mod_mod_of_dvd x (Nat.pow_dvd_pow 2 h)
theorem m256 (x : Nat) {b : Nat} (h : b ≤ 8) : x % 256 % 2 ^ b = x % 2 ^ b := mmp x (a := 8) h
theorem mod_lt256 (x : Nat) : x % 256 < 256 := Nat.mod_lt _ (by decide)
theorem XOK.row {dep : Nat → Nat} {g : Nat} (h : XOK dep g) {x k : Nat} (hx : x < 256) : rowOf dep k = x % 2 ^ dep x ↔ hs k % 2 ^ dep x = x % 2 ^ dep x := by
  have hy := mod_lt256 (hs k)
  have hd := h.2.1 _ hy
  have hb := h.2.1 x hx
  have hg := h.1
  unfold rowOf
  constructor
  · intro e
    rcases Nat.le_total (dep (hs k % 256)) (dep x) with q | q
    · have e2 := congrArg (· % 2 ^ dep (hs k % 256)) e
      simp only [Nat.mod_mod, mmp x q] at e2
      have e3 := h.2.2 (hs k % 256) x hy hx (by rw [m256 _ (by omega)]; exact e2)
      rw [e3]
      exact e2
    · have e2 := congrArg (· % 2 ^ dep x) e
      simp only [Nat.mod_mod, mmp _ q] at e2
      exact e2
  · intro e
    have e3 := h.2.2 x (hs k % 256) hx hy (by rw [m256 _ (by omega)]; exact e.symm)
    rw [e3]; exact e
theorem XR.at {key ldp : Nat → Nat} {dp : Nat} {efi ela eco ene : Nat → Nat} {rows : Nat → List Nat} {dep : Nat → Nat} {E : List Nat} {US : Nat → Prop} (h : XR key ldp dp efi ela eco ene rows dep E US) (kx : Nat) : xrow ldp dp kx = rowOf dep kx ∧ ldp (hs kx % 2 ^ dp) = dep (hs kx % 256) := by
  obtain ⟨-, ⟨h1, h2, h3⟩, h4, -, -, -⟩ := h
  have hy := mod_lt256 (hs kx)
  have hd := h2 _ hy
  have hq : hs kx % 2 ^ dp < 2 ^ dp := Nat.mod_lt _ (Nat.two_pow_pos _)
  have e1 : dep (hs kx % 2 ^ dp) = dep (hs kx % 256) := h3 _ _ hy (m2 h1) (by rw [m256 _ (by omega), mmp _ hd])
  have e2 : ldp (hs kx % 2 ^ dp) = dep (hs kx % 256) := (h4 _ hq).trans e1
  refine ⟨?_, e2⟩
  show hs kx % 2 ^ dp % 2 ^ (ldp (hs kx % 2 ^ dp)) = hs kx % 2 ^ dep (hs kx % 256)
  rw [e2, mmp _ hd]
theorem hs_bit (x b : Nat) : x % 2 ^ (b + 1) = x % 2 ^ b + if x / 2 ^ b % 2 ^ 1 = 0 then 0 else 2 ^ b := by
  rw [Nat.pow_succ, Nat.mod_mul]
  have h : x / 2 ^ b % 2 < 2 := Nat.mod_lt _ (by decide)
  show x % 2 ^ b + 2 ^ b * (x / 2 ^ b % 2) = x % 2 ^ b + if x / 2 ^ b % 2 = 0 then 0 else 2 ^ b
  rcases (show x / 2 ^ b % 2 = 0 ∨ x / 2 ^ b % 2 = 1 by omega) with q | q
  · rw [if_pos q, q, Nat.mul_zero]
  · rw [if_neg (by omega), q, Nat.mul_one]

section XM
variable {key ldp : Nat → Nat} {dp : Nat} {efi ela eco ene : Nat → Nat} {rows : Nat → List Nat} {dep : Nat → Nat} {E : List Nat} {US : Nat → Prop}
theorem add_p2_mod (a : Nat) {d n : Nat} (h : d ≤ n) : (a + 2 ^ n) % 2 ^ d = a % 2 ^ d := by
  obtain ⟨c, rfl⟩ : ∃ c, n = d + c := ⟨n - d, by omega⟩
  rw [Nat.pow_add, Nat.add_mul_mod_self_left]
theorem XOK.up {g g' : Nat} (h : XOK dep g) (h1 : g ≤ g') (h2 : g' ≤ 8) : XOK dep g' := ⟨h2, fun q hq => Nat.le_trans (h.2.1 q hq) h1, h.2.2⟩
/-- the directory has doubled -/
theorem XR.double (h : XR key ldp dp efi ela eco ene rows dep E US) (hdp : dp < 8) {ldp1 : Nat → Nat} (h1 : ∀ q, ldp1 q = if 2 ^ dp ≤ q ∧ q < 2 ^ dp + 2 ^ dp then ldp (q - 2 ^ dp) else ldp q) : XR key ldp1 (dp + 1) efi ela eco ene rows dep E US := by
  obtain ⟨hR, hX, hl, hb, hf, hu⟩ := h
  have hp := p7 hdp
  refine ⟨hR, hX.up (by omega) (by omega), fun q hq => ?_, fun q hq => ?_, hf, hu⟩
  · rw [Nat.pow_succ] at hq
    rw [h1 q]
    by_cases z : 2 ^ dp ≤ q
    · rw [if_pos ⟨z, by omega⟩, hl _ (by omega)]
      refine (hX.2.2 (q - 2 ^ dp) q (by omega) (by omega) ?_).symm
      have e := add_p2_mod (q - 2 ^ dp) (hX.2.1 (q - 2 ^ dp) (by omega))
      rw [Nat.sub_add_cancel z] at e
      exact e.symm
    · rw [if_neg (fun y => z y.1), hl _ (by omega)]
  · rw [h1 q]
    split
    · exact hb _ (by omega)
    · exact hb _ hq
theorem deepen_ok {g x : Nat} (h : XOK dep g) (hx : x < 256) (hb : dep x < g) : XOK (deepen dep x (dep x) (dep x + 1)) g := by
  refine ⟨h.1, fun q hq => ?_, fun q r hq hr e => ?_⟩
  · unfold deepen
    split
    · omega
    · exact h.2.1 q hq
  · unfold deepen at e ⊢
    by_cases z : q % 2 ^ dep x = x % 2 ^ dep x
    · rw [if_pos z] at e ⊢
      have e2 := congrArg (· % 2 ^ dep x) e
      simp only [mmp _ (Nat.le_succ (dep x))] at e2
      rw [if_pos (e2.symm.trans z)]
    · rw [if_neg z] at e ⊢
      rw [if_neg]
      · exact h.2.2 q r hq hr e
      · intro y
        have a := h.2.2 x r hx hr y.symm
        have b := h.2.2 q r hq hr e
        rw [a] at b
        rw [← b] at e
        exact z (e.trans y)
/-- a bucket is split, the directory being deep enough -/
theorem XR.deep (h : XR key ldp dp efi ela eco ene rows dep E US) {x : Nat} (hx : x < 256) (hb : dep x < dp) {ldp2 f2 l2 c2 n2 : Nat → Nat} {rows2 : Nat → List Nat} (h1 : ∀ q, ldp2 q = if q < 2 ^ dp ∧ q % 2 ^ dep x = x % 2 ^ dep x then dep x + 1 else ldp q)
    (hR : RR f2 l2 c2 n2 rows2) (h2 : ∀ r, r < 256 → rows2 r = va_up rows (x % 2 ^ dep x) [] r ++ (rows (x % 2 ^ dep x)).filter (fun e => tg key (x % 2 ^ dep x) (x % 2 ^ dep x + 2 ^ dep x) (dep x) e == r)) :
    XR key ldp2 dp f2 l2 c2 n2 rows2 (deepen dep x (dep x) (dep x + 1)) E US := by
  obtain ⟨-, hX, hl, hbd, hf, hu⟩ := h
  have hg := hX.1
  have hrow : x % 2 ^ dep x < 256 := m2 (by omega)
  refine ⟨hR, deepen_ok hX hx hb, fun q hq => ?_, fun q hq => ?_, fun r hr => ?_, fun r hr e he => ?_⟩
  · rw [h1 q]
    unfold deepen
    by_cases z : q % 2 ^ dep x = x % 2 ^ dep x
    · rw [if_pos ⟨hq, z⟩, if_pos z]
    · rw [if_neg (fun y => z y.2), if_neg z, hl q hq]
  · rw [h1 q]
    split
    · omega
    · exact hbd q hq
  · rw [h2 r hr, List.map_append]
    have e1 : (va_up rows (x % 2 ^ dep x) [] r).map key = if r = x % 2 ^ dep x then [] else E.filter (fun k => rowOf dep k == r) := by
      by_cases z : r = x % 2 ^ dep x
      · rw [if_pos z, z, up_s]; rfl
      · rw [if_neg z, up_n _ _ z, hf r hr]
    have e2 : ((rows (x % 2 ^ dep x)).filter (fun e => tg key (x % 2 ^ dep x) (x % 2 ^ dep x + 2 ^ dep x) (dep x) e == r)).map key = (E.filter (fun k => rowOf dep k == x % 2 ^ dep x)).filter (fun k => (if hs k / 2 ^ dep x % 2 ^ 1 = 0 then x % 2 ^ dep x else x % 2 ^ dep x + 2 ^ dep x) == r) := by
      rw [← hf _ hrow, List.filter_map]
      rfl
    rw [e1, e2]
    refine split_filter (r2 := x % 2 ^ dep x + 2 ^ dep x) (fun k => ?_) (fun k => by split <;> simp) (fun k hk => ?_) r
    · unfold rowOf deepen
      by_cases z : rowOf dep k = x % 2 ^ dep x
      · have z2 := (hX.row hx).mp z
        unfold rowOf at z
        rw [if_pos z, if_pos (by rw [m256 _ (by omega)]; exact z2), hs_bit, z2]
        by_cases y : hs k / 2 ^ dep x % 2 ^ 1 = 0
        · rw [if_pos y, if_pos y, Nat.add_zero]
        · rw [if_neg y, if_neg y]
      · have z2 : ¬ hs k % 2 ^ dep x = x % 2 ^ dep x := fun y => z ((hX.row hx).mpr y)
        unfold rowOf at z
        rw [if_neg z, if_neg (by rw [m256 _ (by omega)]; exact z2)]
    · have hlt : x % 2 ^ dep x < 2 ^ dep x := Nat.mod_lt _ (Nat.two_pow_pos _)
      have hk2 := hk
      unfold rowOf at hk2
      have hd : dep x ≤ dep (hs k % 256) := by
        rcases Nat.lt_or_ge (dep (hs k % 256)) (dep x) with q | q
        · have := Nat.mod_lt (hs k) (Nat.two_pow_pos (dep (hs k % 256)))
          have := p2_le (Nat.le_of_lt q)
          omega
        · exact q
      have e3 := congrArg (· % 2 ^ dep x) hk2
      simp only [mmp _ hd, add_p2_mod _ (Nat.le_refl (dep x)), Nat.mod_mod] at e3
      have e4 := (hX.row hx).mpr e3
      rw [hk] at e4
      have := Nat.two_pow_pos (dep x)
      omega
  · rw [h2 r hr] at he
    rcases List.mem_append.mp he with he | he
    · by_cases z : r = x % 2 ^ dep x
      · rw [z, up_s] at he; exact absurd he List.not_mem_nil
      · rw [up_n _ _ z] at he; exact hu r hr e he
    · exact hu _ hrow e (List.mem_filter.mp he).1
/-- a key comes behind the others -/
theorem XR.add (h : XR key ldp dp efi ela eco ene rows dep E US) {f2 l2 c2 n2 : Nat → Nat} {en : Nat} {US2 : Nat → Prop} (hR : RR f2 l2 c2 n2 (va_up rows (rowOf dep (key en)) (rows (rowOf dep (key en)) ++ [en]))) (h1 : ∀ e, US e → US2 e) (h2 : US2 en) :
    XR key ldp dp f2 l2 c2 n2 (va_up rows (rowOf dep (key en)) (rows (rowOf dep (key en)) ++ [en])) dep (E ++ [key en]) US2 := by
  obtain ⟨-, hX, hl, hbd, hf, hu⟩ := h
  refine ⟨hR, hX, hl, hbd, fun r hr => ?_, fun r hr e he => ?_⟩
  · rw [List.filter_append]
    by_cases z : r = rowOf dep (key en)
    · rw [z, up_s, List.map_append, hf _ (z ▸ hr)]
      simp
    · rw [up_n _ _ z, hf r hr]
      have a : (rowOf dep (key en) == r) = false := by simpa using fun y => z (Eq.symm y)
      simp [a]
  · by_cases z : r = rowOf dep (key en)
    · rw [z, up_s] at he
      rcases List.mem_append.mp he with he | he
      · exact h1 e (hu _ (z ▸ hr) e he)
      · rw [List.mem_singleton.mp he]; exact h2
    · rw [up_n _ _ z] at he; exact h1 e (hu r hr e he)
/-- a key is taken out -/
theorem XR.del (h : XR key ldp dp efi ela eco ene rows dep E US) {f2 l2 c2 n2 : Nat → Nat} {en : Nat} {US2 : Nat → Prop} (hR : RR f2 l2 c2 n2 (fun r => (rows r).filter (· != en))) (hen : US en) (hinj : ∀ e f, US e → US f → key e = key f → e = f) (h1 : ∀ e, US e → e ≠ en → US2 e) :
    XR key ldp dp f2 l2 c2 n2 (fun r => (rows r).filter (· != en)) dep (E.filter (· != key en)) US2 := by
  obtain ⟨-, hX, hl, hbd, hf, hu⟩ := h
  refine ⟨hR, hX, hl, hbd, fun r hr => ?_, fun r hr e he => ?_⟩
  · have e1 : (rows r).filter (· != en) = (rows r).filter ((fun k => k != key en) ∘ key) := List.filter_congr (fun e he => by
      show (e != en) = (key e != key en)
      by_cases z : e = en
      · simp [z]
      · have a : key e ≠ key en := fun y => z (hinj e en (hu r hr e he) hen y)
        rw [show (e != en) = true from by simpa using z, show (key e != key en) = true from by simpa using a])
    show ((rows r).filter (· != en)).map key = _
    rw [e1, ← List.filter_map, hf r hr, List.filter_filter, List.filter_filter]
    exact List.filter_congr (fun k _ => Bool.and_comm _ _)
  · obtain ⟨a, b⟩ := List.mem_filter.mp he
    exact h1 e (hu r hr e a) (by simpa using b)
theorem bit_two (x c : Nat) : x % 2 ^ (c + 1) = x % 2 ^ c ∨ x % 2 ^ (c + 1) = x % 2 ^ c + 2 ^ c := by
  rw [hs_bit]
  split
  · exact Or.inl (Nat.add_zero _)
  · exact Or.inr rfl
theorem deepen_back {g x c y0 y1 : Nat} (h : XOK dep g) (h0 : y0 < 256) (h1 : y1 < 256) (d0 : dep y0 = c + 1) (d1 : dep y1 = c + 1) (e0 : y0 % 2 ^ (c + 1) = x % 2 ^ c) (e1 : y1 % 2 ^ (c + 1) = x % 2 ^ c + 2 ^ c) : XOK (deepen dep x c c) g := by
  have hc := h.2.1 y0 h0
  refine ⟨h.1, fun q hq => ?_, fun q r hq hr e => ?_⟩
  · unfold deepen
    split
    · omega
    · exact h.2.1 q hq
  · unfold deepen at e ⊢
    by_cases z : q % 2 ^ c = x % 2 ^ c
    · rw [if_pos z] at e ⊢
      rw [if_pos (e.symm.trans z)]
    · rw [if_neg z] at e ⊢
      rw [if_neg]
      · exact h.2.2 q r hq hr e
      · intro y
        have b := h.2.2 q r hq hr e
        have hr2 : dep r = c + 1 := by
          rcases bit_two r c with w | w
          · rw [← d0]; exact h.2.2 y0 r h0 hr (by rw [d0, e0, w, y])
          · rw [← d1]; exact h.2.2 y1 r h1 hr (by rw [d1, e1, w, y])
        rw [hr2] at b
        rw [← b] at e
        have e3 := congrArg (· % 2 ^ c) e
        simp only [mmp _ (Nat.le_succ c)] at e3
        exact z (e3.trans y)
def mvB (E : List Nat) (p b : Nat) : List Nat := E.filter (fun k => !(hs k % 2 ^ b == p % 2 ^ b)) ++ E.filter (fun k => hs k % 2 ^ b == p % 2 ^ b)
/-- two buckets merge -/
theorem XR.merge (h : XR key ldp dp efi ela eco ene rows dep E US) {x c y0 y1 pp : Nat} (h0 : y0 < 256) (h1 : y1 < 256) (d0 : dep y0 = c + 1) (d1 : dep y1 = c + 1) (e0 : y0 % 2 ^ (c + 1) = x % 2 ^ c) (e1 : y1 % 2 ^ (c + 1) = x % 2 ^ c + 2 ^ c) (ep : pp % 2 ^ (c + 1) = x % 2 ^ c + 2 ^ c)
    {ldp2 f2 l2 c2 n2 : Nat → Nat} {rows2 : Nat → List Nat} (g1 : ∀ q, ldp2 q = if q < 2 ^ dp ∧ q % 2 ^ c = x % 2 ^ c then c else ldp q) (hR : RR f2 l2 c2 n2 rows2)
    (g2 : ∀ r, r < 256 → rows2 r = va_up rows (x % 2 ^ c + 2 ^ c) [] r ++ if x % 2 ^ c = r then rows (x % 2 ^ c + 2 ^ c) else []) :
    XR key ldp2 dp f2 l2 c2 n2 rows2 (deepen dep x c c) (mvB E pp (c + 1)) US := by
  obtain ⟨-, hX, hl, hbd, hf, hu⟩ := h
  have hg := hX.1
  have hc := hX.2.1 y0 h0
  have hlt : x % 2 ^ c < 2 ^ c := Nat.mod_lt _ (Nat.two_pow_pos _)
  have hpc := p7 (dp := c) (by omega)
  have r1 : ∀ k, rowOf dep k = x % 2 ^ c + 2 ^ c ↔ hs k % 2 ^ (c + 1) = x % 2 ^ c + 2 ^ c := fun k => by
    have := hX.row (k := k) h1
    rw [d1, e1] at this
    exact this
  have r0 : ∀ k, rowOf dep k = x % 2 ^ c ↔ hs k % 2 ^ (c + 1) = x % 2 ^ c := fun k => by
    have := hX.row (k := k) h0
    rw [d0, e0] at this
    exact this
  refine ⟨hR, deepen_back hX h0 h1 d0 d1 e0 e1, fun q hq => ?_, fun q hq => ?_, fun r hr => ?_, fun r hr e he => ?_⟩
  · rw [g1 q]
    unfold deepen
    by_cases z : q % 2 ^ c = x % 2 ^ c
    · rw [if_pos ⟨hq, z⟩, if_pos z]
    · rw [if_neg (fun y => z y.2), if_neg z, hl q hq]
  · rw [g1 q]
    split
    · omega
    · exact hbd q hq
  · rw [g2 r hr, List.map_append]
    have w1 : (va_up rows (x % 2 ^ c + 2 ^ c) [] r).map key = if r = x % 2 ^ c + 2 ^ c then [] else E.filter (fun k => rowOf dep k == r) := by
      by_cases z : r = x % 2 ^ c + 2 ^ c
      · rw [if_pos z, z, up_s]; rfl
      · rw [if_neg z, up_n _ _ z, hf r hr]
    have w2 : (if x % 2 ^ c = r then rows (x % 2 ^ c + 2 ^ c) else []).map key = if x % 2 ^ c = r then E.filter (fun k => rowOf dep k == x % 2 ^ c + 2 ^ c) else [] := by
      split
      · exact hf _ (by omega)
      · rfl
    have w3 : mvB E pp (c + 1) = E.filter (fun k => !(rowOf dep k == x % 2 ^ c + 2 ^ c)) ++ E.filter (fun k => rowOf dep k == x % 2 ^ c + 2 ^ c) := by
      have w4 : ∀ k, (hs k % 2 ^ (c + 1) == pp % 2 ^ (c + 1)) = (rowOf dep k == x % 2 ^ c + 2 ^ c) := fun k => by
        rw [ep]
        by_cases z : rowOf dep k = x % 2 ^ c + 2 ^ c
        · rw [z, (r1 k).mp z]
        · have z2 : ¬ hs k % 2 ^ (c + 1) = x % 2 ^ c + 2 ^ c := fun y => z ((r1 k).mpr y)
          rw [show (rowOf dep k == x % 2 ^ c + 2 ^ c) = false from by simpa using z, show (hs k % 2 ^ (c + 1) == x % 2 ^ c + 2 ^ c) = false from by simpa using z2]
      unfold mvB
      simp only [w4]
    rw [w1, w2, w3]
    refine merge_filter (fun k => ?_) (by have := Nat.two_pow_pos c; omega) r
    by_cases z : hs k % 2 ^ c = x % 2 ^ c
    · have w5 : rowOf (deepen dep x c c) k = x % 2 ^ c := by
        unfold rowOf deepen
        rw [if_pos (by rw [m256 _ (by omega)]; exact z)]
        exact z
      rw [w5]
      rcases bit_two (hs k) c with w | w
      · rw [z] at w
        have := (r0 k).mpr w
        rw [if_neg (by have := Nat.two_pow_pos c; omega), this]
      · rw [z] at w
        rw [if_pos ((r1 k).mpr w)]
    · have w5 : rowOf (deepen dep x c c) k = rowOf dep k := by
        unfold rowOf deepen
        rw [if_neg (by rw [m256 _ (by omega)]; exact z)]
      rw [w5, if_neg]
      intro w
      have w6 := congrArg (· % 2 ^ c) ((r1 k).mp w)
      simp only [mmp _ (Nat.le_succ c), add_p2_mod _ (Nat.le_refl c), Nat.mod_mod] at w6
      exact z w6
  · rw [g2 r hr] at he
    rcases List.mem_append.mp he with he | he
    · by_cases z : r = x % 2 ^ c + 2 ^ c
      · rw [z, up_s] at he; exact absurd he List.not_mem_nil
      · rw [up_n _ _ z] at he; exact hu r hr e he
    · by_cases z : x % 2 ^ c = r
      · rw [if_pos z] at he; exact hu _ (by omega) e he
      · rw [if_neg z] at he; exact absurd he List.not_mem_nil
theorem filter_two {E : List Nat} {f g : Nat → Nat} {a b c : Nat} (hab : a ≠ b) (h : ∀ k, g k = c ↔ f k = a ∨ f k = b) : (E.filter (fun k => f k == a)).length + (E.filter (fun k => f k == b)).length = (E.filter (fun k => g k == c)).length := by
  induction E with
  | nil => rfl
  | cons k E ih =>
    simp only [List.filter_cons]
    by_cases z1 : f k = a
    · have z2 : ¬ f k = b := fun y => hab (z1.symm.trans y)
      have z3 := (h k).mpr (Or.inl z1)
      rw [if_pos (by simpa using z1), if_neg (by simpa using z2), if_pos (by simpa using z3)]
      simp only [List.length_cons]
      omega
    · by_cases z2 : f k = b
      · have z3 := (h k).mpr (Or.inr z2)
        rw [if_neg (by simpa using z1), if_pos (by simpa using z2), if_pos (by simpa using z3)]
        simp only [List.length_cons]
        omega
      · have z3 : ¬ g k = c := fun y => ((h k).mp y).elim z1 z2
        rw [if_neg (by simpa using z1), if_neg (by simpa using z2), if_neg (by simpa using z3)]
        exact ih
theorem xor_p2 (x c : Nat) : (x ^^^ 2 ^ c) % 2 ^ (c + 1) = if x / 2 ^ c % 2 ^ 1 = 0 then x % 2 ^ c + 2 ^ c else x % 2 ^ c := by
  rw [hs_bit, Nat.xor_mod_two_pow, Nat.xor_div_two_pow, Nat.mod_self, Nat.xor_zero, Nat.div_self (Nat.two_pow_pos c)]
  have h : x / 2 ^ c % 2 < 2 := Nat.mod_lt _ (by decide)
  show (x % 2 ^ c + if (x / 2 ^ c ^^^ 1) % 2 = 0 then 0 else 2 ^ c) = if x / 2 ^ c % 2 = 0 then x % 2 ^ c + 2 ^ c else x % 2 ^ c
  have h2 : (x / 2 ^ c ^^^ 1) % 2 = (x / 2 ^ c % 2) ^^^ 1 := Nat.xor_mod_two_pow (n := 1)
  rw [h2]
  rcases (show x / 2 ^ c % 2 = 0 ∨ x / 2 ^ c % 2 = 1 by omega) with q | q
  · rw [q]; rfl
  · rw [q]; rfl
theorem or_p2 (x c : Nat) : (x ||| 2 ^ c) % 2 ^ (c + 1) = x % 2 ^ c + 2 ^ c := by
  rw [hs_bit, Nat.or_mod_two_pow, Nat.or_div_two_pow, Nat.mod_self, Nat.or_zero, Nat.div_self (Nat.two_pow_pos c), if_neg]
  show ¬ (x / 2 ^ c ||| 1) % 2 = 0
  rw [Nat.or_mod_two_eq_one.mpr (Or.inr rfl)]
  decide
/-- the two buckets of a merge -/
theorem two_of {x c : Nat} (hx : x < 256) (hc : c < 8) (d : dep x = c + 1) (d2 : dep (x ^^^ 2 ^ c) = c + 1) : ∃ y0 y1, y0 < 256 ∧ y1 < 256 ∧ dep y0 = c + 1 ∧ dep y1 = c + 1 ∧ y0 % 2 ^ (c + 1) = x % 2 ^ c ∧ y1 % 2 ^ (c + 1) = x % 2 ^ c + 2 ^ c := by
  have hb : x ^^^ 2 ^ c < 256 := Nat.xor_lt_two_pow (n := 8) hx (Nat.pow_lt_pow_right (by decide) hc)
  have e := xor_p2 x c
  have e2 := hs_bit x c
  by_cases q : x / 2 ^ c % 2 ^ 1 = 0
  · rw [if_pos q] at e e2
    exact ⟨x, _, hx, hb, d, d2, e2, e⟩
  · rw [if_neg q] at e e2
    exact ⟨_, x, hb, hx, d2, d, e, e2⟩
end XM
