
/-! the linear table -/
def linOf (v p k : Nat) : Nat := if p ≤ hs k % 2 ^ v then hs k % 2 ^ v else hs k % 2 ^ (v + 1)
def YOK (v p : Nat) : Prop := p < 2 ^ v ∧ 2 ^ v + p ≤ 240
def YR (key : Nat → Nat) (v p : Nat) (lfi lla lco lne : Nat → Nat) (rows : Nat → List Nat) (L : List Nat) (US : Nat → Prop) : Prop :=
  RR lfi lla lco lne rows ∧ YOK v p ∧ (∀ r, r < 256 → (rows r).map key = L.filter (fun k => linOf v p k == r)) ∧ ∀ r, r < 256 → ∀ e ∈ rows r, US e
def lsplit (X : Nat × Nat) : Nat × Nat := if X.2 + 1 = 2 ^ X.1 then (X.1 + 1, 0) else (X.1, X.2 + 1)
def lback (X : Nat × Nat) : Nat × Nat := if X.2 = 0 then (X.1 - 1, 2 ^ (X.1 - 1) - 1) else (X.1, X.2 - 1)
theorem YOK.lev {v p : Nat} (h : YOK v p) : v ≤ 7 := by
  rcases Nat.lt_or_ge v 8 with q | q
  · omega
  · have := p2_le q
    have := h.2
    omega
theorem linOf_lt {v p : Nat} (h : p < 2 ^ v) (k : Nat) : linOf v p k < 2 ^ v + p := by
  unfold linOf
  have h1 : hs k % 2 ^ v < 2 ^ v := Nat.mod_lt _ (Nat.two_pow_pos _)
  split
  · omega
  · rcases bit_two (hs k) v with q | q <;> omega
theorem linOf_p {v p : Nat} (h : p < 2 ^ v) (k : Nat) : linOf v p k = p ↔ hs k % 2 ^ v = p := by
  unfold linOf
  have h1 : hs k % 2 ^ v < 2 ^ v := Nat.mod_lt _ (Nat.two_pow_pos _)
  split
  · exact Iff.rfl
  · constructor
    · rcases bit_two (hs k) v with q | q <;> omega
    · intro q; omega
theorem lsplit_many {v p : Nat} : 2 ^ (lsplit (v, p)).1 + (lsplit (v, p)).2 = 2 ^ v + p + 1 := by
  unfold lsplit
  dsimp only
  split
  · rename_i h
    show 2 ^ (v + 1) + 0 = _
    rw [Nat.pow_succ]; omega
  · rfl
theorem lsplit_ok {v p : Nat} (h : YOK v p) (h2 : 2 ^ v + p < 240) : YOK (lsplit (v, p)).1 (lsplit (v, p)).2 := by
  refine ⟨?_, by rw [lsplit_many]; omega⟩
  have := h.1
  unfold lsplit
  dsimp only
  split
  · exact Nat.two_pow_pos _
  · show p + 1 < 2 ^ v
    omega
/-- where the keys go when the bucket at the pointer is split -/
theorem linOf_split {v p : Nat} (h : p < 2 ^ v) (k : Nat) : linOf (lsplit (v, p)).1 (lsplit (v, p)).2 k = if linOf v p k = p then (if hs k / 2 ^ v % 2 ^ 1 = 0 then p else 2 ^ v + p) else linOf v p k := by
  have h1 : hs k % 2 ^ v < 2 ^ v := Nat.mod_lt _ (Nat.two_pow_pos _)
  have hb := hs_bit (hs k) v
  have hp := linOf_p h k
  by_cases z : hs k % 2 ^ v = p
  · rw [if_pos (hp.mpr z)]
    have hr : hs k % 2 ^ (v + 1) = if hs k / 2 ^ v % 2 ^ 1 = 0 then p else 2 ^ v + p := by
      rw [hb, z]
      split
      · rfl
      · exact Nat.add_comm _ _
    rw [← hr]
    unfold lsplit
    dsimp only
    split
    · unfold linOf
      rw [if_pos (Nat.zero_le _)]
    · unfold linOf
      dsimp only
      rw [if_neg (by omega)]
  · rw [if_neg (fun y => z (hp.mp y))]
    unfold lsplit
    dsimp only
    split
    · unfold linOf
      dsimp only
      rw [if_pos (Nat.zero_le _), if_neg (by omega)]
    · unfold linOf
      dsimp only
      by_cases y : p ≤ hs k % 2 ^ v
      · rw [if_pos y, if_pos (by omega)]
      · rw [if_neg y, if_neg (by omega)]
theorem lback_split {v p : Nat} (h : YOK v p) (h1 : 1 < 2 ^ v + p) : lsplit (lback (v, p)) = (v, p) ∧ (lback (v, p)).2 < 2 ^ (lback (v, p)).1 ∧ 2 ^ (lback (v, p)).1 + (lback (v, p)).2 + 1 = 2 ^ v + p := by
  have h2 := h.1
  unfold lback
  dsimp only
  by_cases z : p = 0
  · subst z
    have hv : 0 < v := by
      rcases Nat.eq_zero_or_pos v with q | q
      · subst q; simp at h1
      · exact q
    obtain ⟨w, rfl⟩ : ∃ w, v = w + 1 := ⟨v - 1, by omega⟩
    have hw := Nat.two_pow_pos w
    rw [if_pos rfl]
    rw [Nat.add_sub_cancel]
    refine ⟨?_, by show 2 ^ w - 1 < 2 ^ w; omega, by show 2 ^ w + (2 ^ w - 1) + 1 = _; rw [Nat.pow_succ]; omega⟩
    unfold lsplit
    dsimp only
    rw [if_pos (by omega)]
  · rw [if_neg z]
    refine ⟨?_, by show p - 1 < 2 ^ v; omega, by show 2 ^ v + (p - 1) + 1 = _; omega⟩
    unfold lsplit
    dsimp only
    rw [if_neg (by omega), Nat.sub_add_cancel (by omega)]
theorem lback_ok {v p : Nat} (h : YOK v p) (h1 : 1 < 2 ^ v + p) : YOK (lback (v, p)).1 (lback (v, p)).2 := by
  have := lback_split h h1
  exact ⟨this.2.1, by have := h.2; omega⟩
theorem linOf_back {v p : Nat} (h : YOK v p) (h1 : 1 < 2 ^ v + p) (k : Nat) : linOf (lback (v, p)).1 (lback (v, p)).2 k = if linOf v p k = 2 ^ (lback (v, p)).1 + (lback (v, p)).2 then (lback (v, p)).2 else linOf v p k := by
  obtain ⟨e, h2, h3⟩ := lback_split h h1
  have hs1 := linOf_split h2 k
  have hl := linOf_lt h2 k
  rw [e] at hs1
  dsimp only at hs1
  rw [hs1]
  by_cases z : linOf (lback (v, p)).1 (lback (v, p)).2 k = (lback (v, p)).2
  · rw [if_pos z]
    split
    · rw [if_neg, z]
      have := Nat.two_pow_pos (lback (v, p)).1
      omega
    · rw [if_pos rfl, z]
  · rw [if_neg z, if_neg (by omega)]
def lcond (cap hi n : Nat) (X : Nat × Nat × Int32) : Bool := decide (hi * (2 ^ X.1 + X.2.1) * cap < 100 * n)
def lstep (X : Nat × Nat × Int32) : Nat × Nat × Int32 := ((lsplit (X.1, X.2.1)).1, (lsplit (X.1, X.2.1)).2, X.2.2 + nI 1)
/-- splits, as long as the load is above the high one -/
def lS (cap hi n : Nat) : Nat → Nat × Nat × Int32 → Nat × Nat × Int32
  | 0, X => X
  | k + 1, X => if lcond cap hi n X = true then lS cap hi n k (lstep X) else X
theorem lS_go {cap hi n k : Nat} {X R : Nat × Nat × Int32} (h : lS cap hi n k X = R) (hk : 0 < k) (h1 : hi * (2 ^ X.1 + X.2.1) * cap < 100 * n) : lS cap hi n (k - 1) (lstep X) = R := by
  obtain ⟨j, rfl⟩ : ∃ j, k = j + 1 := ⟨k - 1, by omega⟩
  rw [← h]
  show lS cap hi n j (lstep X) = if lcond cap hi n X = true then lS cap hi n j (lstep X) else X
  rw [if_pos (by simp [lcond, h1])]
theorem lS_end {cap hi n k : Nat} {X R : Nat × Nat × Int32} (h : lS cap hi n k X = R) (h1 : 100 * n ≤ hi * (2 ^ X.1 + X.2.1) * cap) : X = R := by
  rw [← h]
  cases k with
  | zero => rfl
  | succ j =>
    show X = if lcond cap hi n X = true then lS cap hi n j (lstep X) else X
    rw [if_neg]
    simp only [lcond, decide_eq_true_eq]
    omega
def bcond (cap lo n : Nat) (X : List Nat × Nat × Nat × Int32) : Bool := decide (1 < 2 ^ X.2.1 + X.2.2.1) && decide (100 * n < lo * (2 ^ X.2.1 + X.2.2.1) * cap)
def mvL (L : List Nat) (v p r : Nat) : List Nat := L.filter (fun k => !(linOf v p k == r)) ++ L.filter (fun k => linOf v p k == r)
def bstep (X : List Nat × Nat × Nat × Int32) : List Nat × Nat × Nat × Int32 := (mvL X.1 X.2.1 X.2.2.1 (2 ^ X.2.1 + X.2.2.1 - 1), (lback (X.2.1, X.2.2.1)).1, (lback (X.2.1, X.2.2.1)).2, X.2.2.2 - nI 1)
/-- splits are taken back, as long as the load is below the low one -/
def lB (cap lo n : Nat) : Nat → List Nat × Nat × Nat × Int32 → List Nat × Nat × Nat × Int32
  | 0, X => X
  | k + 1, X => if bcond cap lo n X = true then lB cap lo n k (bstep X) else X
theorem lB_go {cap lo n k : Nat} {X R : List Nat × Nat × Nat × Int32} (h : lB cap lo n k X = R) (hk : 0 < k) (h0 : 1 < 2 ^ X.2.1 + X.2.2.1) (h1 : 100 * n < lo * (2 ^ X.2.1 + X.2.2.1) * cap) : lB cap lo n (k - 1) (bstep X) = R := by
  obtain ⟨j, rfl⟩ : ∃ j, k = j + 1 := ⟨k - 1, by omega⟩
  rw [← h]
  show lB cap lo n j (bstep X) = if bcond cap lo n X = true then lB cap lo n j (bstep X) else X
  rw [if_pos (by simp [bcond, h0, h1])]
theorem lB_end {cap lo n k : Nat} {X R : List Nat × Nat × Nat × Int32} (h : lB cap lo n k X = R) (h1 : 2 ^ X.2.1 + X.2.2.1 ≤ 1 ∨ lo * (2 ^ X.2.1 + X.2.2.1) * cap ≤ 100 * n) : X = R := by
  rw [← h]
  cases k with
  | zero => rfl
  | succ j =>
    show X = if bcond cap lo n X = true then lB cap lo n j (bstep X) else X
    rw [if_neg]
    simp only [bcond, Bool.and_eq_true, decide_eq_true_eq]
    omega
section YM
variable {key : Nat → Nat} {v p : Nat} {lfi lla lco lne : Nat → Nat} {rows : Nat → List Nat} {L : List Nat} {US : Nat → Prop}
theorem YR.split (h : YR key v p lfi lla lco lne rows L US) (h2 : 2 ^ v + p < 240) {f2 l2 c2 n2 : Nat → Nat} {rows2 : Nat → List Nat} (hR : RR f2 l2 c2 n2 rows2)
    (g2 : ∀ r, r < 256 → rows2 r = va_up rows p [] r ++ (rows p).filter (fun e => tg key p (2 ^ v + p) v e == r)) : YR key (lsplit (v, p)).1 (lsplit (v, p)).2 f2 l2 c2 n2 rows2 L US := by
  obtain ⟨-, hY, hf, hu⟩ := h
  have hp : p < 256 := by have := hY.1; have := hY.2; omega
  refine ⟨hR, lsplit_ok hY h2, fun r hr => ?_, fun r hr e he => ?_⟩
  · rw [g2 r hr, List.map_append]
    have e1 : (va_up rows p [] r).map key = if r = p then [] else L.filter (fun k => linOf v p k == r) := by
      by_cases z : r = p
      · rw [if_pos z, z, up_s]; rfl
      · rw [if_neg z, up_n _ _ z, hf r hr]
    have e2 : ((rows p).filter (fun e => tg key p (2 ^ v + p) v e == r)).map key = (L.filter (fun k => linOf v p k == p)).filter (fun k => (if hs k / 2 ^ v % 2 ^ 1 = 0 then p else 2 ^ v + p) == r) := by
      rw [← hf _ hp, List.filter_map]
      rfl
    rw [e1, e2]
    exact split_filter (r2 := 2 ^ v + p) (fun k => linOf_split hY.1 k) (fun k => by split <;> simp) (fun k => by have := linOf_lt hY.1 k; omega) r
  · rw [g2 r hr] at he
    rcases List.mem_append.mp he with he | he
    · by_cases z : r = p
      · rw [z, up_s] at he; exact absurd he List.not_mem_nil
      · rw [up_n _ _ z] at he; exact hu r hr e he
    · exact hu _ hp e (List.mem_filter.mp he).1
theorem YR.back (h : YR key v p lfi lla lco lne rows L US) (h2 : 1 < 2 ^ v + p) {v2 p2 : Nat} (hv2 : v2 = (lback (v, p)).1) (hp2 : p2 = (lback (v, p)).2) {f2 l2 c2 n2 : Nat → Nat} {rows2 : Nat → List Nat} (hR : RR f2 l2 c2 n2 rows2)
    (g2 : ∀ r, r < 256 → rows2 r = va_up rows (2 ^ v2 + p2) [] r ++ if p2 = r then rows (2 ^ v2 + p2) else []) : YR key v2 p2 f2 l2 c2 n2 rows2 (mvL L v p (2 ^ v + p - 1)) US := by
  obtain ⟨-, hY, hf, hu⟩ := h
  have hb := lback_split hY h2
  have hl := lback_ok hY h2
  rw [← hv2, ← hp2] at hb hl
  have hlt : 2 ^ v2 + p2 < 256 := by have := hl.2; omega
  have hlast : 2 ^ v + p - 1 = 2 ^ v2 + p2 := by omega
  refine ⟨hR, hl, fun r hr => ?_, fun r hr e he => ?_⟩
  · rw [g2 r hr, List.map_append]
    have w1 : (va_up rows (2 ^ v2 + p2) [] r).map key = if r = 2 ^ v2 + p2 then [] else L.filter (fun k => linOf v p k == r) := by
      by_cases z : r = 2 ^ v2 + p2
      · rw [if_pos z, z, up_s]; rfl
      · rw [if_neg z, up_n _ _ z, hf r hr]
    have w2 : (if p2 = r then rows (2 ^ v2 + p2) else []).map key = if p2 = r then L.filter (fun k => linOf v p k == 2 ^ v2 + p2) else [] := by
      split
      · exact hf _ hlt
      · rfl
    rw [w1, w2]
    unfold mvL
    rw [hlast]
    refine merge_filter (fun k => ?_) (by have := Nat.two_pow_pos v2; omega) r
    rw [hv2, hp2]
    exact linOf_back hY h2 k
  · rw [g2 r hr] at he
    rcases List.mem_append.mp he with he | he
    · by_cases z : r = 2 ^ v2 + p2
      · rw [z, up_s] at he; exact absurd he List.not_mem_nil
      · rw [up_n _ _ z] at he; exact hu r hr e he
    · by_cases z : p2 = r
      · rw [if_pos z] at he; exact hu _ hlt e he
      · rw [if_neg z] at he; exact absurd he List.not_mem_nil
theorem YR.add (h : YR key v p lfi lla lco lne rows L US) {f2 l2 c2 n2 : Nat → Nat} {en : Nat} {US2 : Nat → Prop} (hR : RR f2 l2 c2 n2 (va_up rows (linOf v p (key en)) (rows (linOf v p (key en)) ++ [en]))) (h1 : ∀ e, US e → US2 e) (h2 : US2 en) :
    YR key v p f2 l2 c2 n2 (va_up rows (linOf v p (key en)) (rows (linOf v p (key en)) ++ [en])) (L ++ [key en]) US2 := by
  obtain ⟨-, hY, hf, hu⟩ := h
  refine ⟨hR, hY, fun r hr => ?_, fun r hr e he => ?_⟩
  · rw [List.filter_append]
    by_cases z : r = linOf v p (key en)
    · rw [z, up_s, List.map_append, hf _ (z ▸ hr)]
      simp
    · rw [up_n _ _ z, hf r hr]
      have a : (linOf v p (key en) == r) = false := by simpa using fun y => z (Eq.symm y)
      simp [a]
  · by_cases z : r = linOf v p (key en)
    · rw [z, up_s] at he
      rcases List.mem_append.mp he with he | he
      · exact h1 e (hu _ (z ▸ hr) e he)
      · rw [List.mem_singleton.mp he]; exact h2
    · rw [up_n _ _ z] at he; exact h1 e (hu r hr e he)
theorem YR.del (h : YR key v p lfi lla lco lne rows L US) {f2 l2 c2 n2 : Nat → Nat} {en : Nat} {US2 : Nat → Prop} (hR : RR f2 l2 c2 n2 (fun r => (rows r).filter (· != en))) (hen : US en) (hinj : ∀ e f, US e → US f → key e = key f → e = f) (h1 : ∀ e, US e → e ≠ en → US2 e) :
    YR key v p f2 l2 c2 n2 (fun r => (rows r).filter (· != en)) (L.filter (· != key en)) US2 := by
  obtain ⟨-, hY, hf, hu⟩ := h
  refine ⟨hR, hY, fun r hr => ?_, fun r hr e he => ?_⟩
  · have e1 : (rows r).filter (· != en) = (rows r).filter ((fun k => k != key en) ∘ key) := List.filter_congr (fun e he => by
      show (e != en) = (key e != key en)
      by_cases z : e = en
      · simp [z]
      · have a : key e ≠ key en := fun y => z (hinj e en (hu r hr e he) hen y)
        rw [show (e != en) = true from by simpa using z, show (key e != key en) = true from by simpa using a])
    show ((rows r).filter (· != en)).map key = _
    rw [e1, ← List.filter_map, hf r hr, List.filter_filter, List.filter_filter]
    exact List.filter_congr (fun k _ => Bool.and_comm _ _)
  · obtain ⟨a, b⟩ := List.mem_filter.mp he
    exact h1 e (hu r hr e a) (by simpa using b)
end YM
theorem fa_le {hi m cap : Nat} (h1 : hi ≤ 200) (h2 : m ≤ 256) (h3 : cap ≤ 5) : hi * m * cap ≤ 256000 := Nat.mul_le_mul (Nat.mul_le_mul h1 h2) h3
theorem fa_ge {hi m cap : Nat} (h1 : 50 ≤ hi) (h3 : 1 ≤ cap) : 50 * m ≤ hi * m * cap := by
  have := Nat.mul_le_mul (Nat.mul_le_mul h1 (Nat.le_refl m)) h3
  omega
