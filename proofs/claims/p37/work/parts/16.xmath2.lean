
def pcond (cap : Nat) (E : List Nat) (x : Nat) (X : (Nat → Nat) × Nat × Int32 × Int32) : Bool := decide (X.1 x < 8) && decide (cap ≤ cntB E x (X.1 x))
def pstep (x : Nat) (X : (Nat → Nat) × Nat × Int32 × Int32) : (Nat → Nat) × Nat × Int32 × Int32 :=
  (deepen X.1 x (X.1 x) (X.1 x + 1), if X.1 x = X.2.1 then X.2.1 + 1 else X.2.1, if X.1 x = X.2.1 then X.2.2.1 + nI 1 else X.2.2.1, X.2.2.2 + nI 1)
/-- splits, for a new key of the hash x, as long as they are due -/
def pS (cap : Nat) (E : List Nat) (x : Nat) : Nat → (Nat → Nat) × Nat × Int32 × Int32 → (Nat → Nat) × Nat × Int32 × Int32
  | 0, X => X
  | n + 1, X => if pcond cap E x X = true then pS cap E x n (pstep x X) else X
theorem pS_go {cap : Nat} {E : List Nat} {x k : Nat} {X R : (Nat → Nat) × Nat × Int32 × Int32} (h : pS cap E x k X = R) (hk : 0 < k) (h1 : X.1 x < 8) (h2 : cap ≤ cntB E x (X.1 x)) : pS cap E x (k - 1) (pstep x X) = R := by
  obtain ⟨j, rfl⟩ : ∃ j, k = j + 1 := ⟨k - 1, by omega⟩
  rw [← h]
  show pS cap E x j (pstep x X) = if pcond cap E x X = true then pS cap E x j (pstep x X) else X
  rw [if_pos]
  simp [pcond, h1, h2]
theorem pS_end {cap : Nat} {E : List Nat} {x k : Nat} {X R : (Nat → Nat) × Nat × Int32 × Int32} (h : pS cap E x k X = R) (h1 : 8 ≤ X.1 x ∨ cntB E x (X.1 x) < cap) : X = R := by
  rw [← h]
  cases k with
  | zero => rfl
  | succ j =>
    show X = if pcond cap E x X = true then pS cap E x j (pstep x X) else X
    rw [if_neg]
    simp only [pcond, Bool.and_eq_true, decide_eq_true_eq]
    omega
def mcond (cap x : Nat) (X : (Nat → Nat) × List Nat × Int32) : Bool := decide (0 < X.1 x) && (decide (X.1 (x ^^^ 2 ^ (X.1 x - 1)) = X.1 x) && decide (cntB X.2.1 x (X.1 x - 1) ≤ cap))
def mstep (x : Nat) (X : (Nat → Nat) × List Nat × Int32) : (Nat → Nat) × List Nat × Int32 :=
  (deepen X.1 x (X.1 x - 1) (X.1 x - 1), mvB X.2.1 (x ||| 2 ^ (X.1 x - 1)) (X.1 x), X.2.2 + nI 1)
/-- merges, at the hash x, as long as they are due -/
def mS (cap x : Nat) : Nat → (Nat → Nat) × List Nat × Int32 → (Nat → Nat) × List Nat × Int32
  | 0, X => X
  | n + 1, X => if mcond cap x X = true then mS cap x n (mstep x X) else X
theorem mS_go {cap x k : Nat} {X R : (Nat → Nat) × List Nat × Int32} (h : mS cap x k X = R) (hk : 0 < k) (h1 : mcond cap x X = true) : mS cap x (k - 1) (mstep x X) = R := by
  obtain ⟨j, rfl⟩ : ∃ j, k = j + 1 := ⟨k - 1, by omega⟩
  rw [← h]
  show mS cap x j (mstep x X) = if mcond cap x X = true then mS cap x j (mstep x X) else X
  rw [if_pos h1]
theorem mS_end {cap x k : Nat} {X R : (Nat → Nat) × List Nat × Int32} (h : mS cap x k X = R) (h1 : ¬ mcond cap x X = true) : X = R := by
  rw [← h]
  cases k with
  | zero => rfl
  | succ j => exact (if_neg h1).symm
theorem mcond_iff {cap x : Nat} {X : (Nat → Nat) × List Nat × Int32} : mcond cap x X = true ↔ 0 < X.1 x ∧ X.1 (x ^^^ 2 ^ (X.1 x - 1)) = X.1 x ∧ cntB X.2.1 x (X.1 x - 1) ≤ cap := by
  simp [mcond]
/-- the greatest of so many numbers -/
def mx (f : Nat → Nat) : Nat → Nat
  | 0 => 0
  | n + 1 => max (mx f n) (f n)
theorem mx_le {f : Nat → Nat} : ∀ {n q : Nat}, q < n → f q ≤ mx f n
  | n + 1, q, h => by
    show f q ≤ max (mx f n) (f n)
    rcases Nat.lt_or_eq_of_le (Nat.le_of_lt_succ h) with z | rfl
    · exact Nat.le_trans (mx_le z) (Nat.le_max_left _ _)
    · exact Nat.le_max_right _ _
theorem mx_is {f : Nat → Nat} : ∀ {n : Nat}, mx f n = 0 ∨ ∃ q, q < n ∧ f q = mx f n
  | 0 => Or.inl rfl
  | n + 1 => by
    show max (mx f n) (f n) = 0 ∨ ∃ q, q < n + 1 ∧ f q = max (mx f n) (f n)
    rcases Nat.le_total (mx f n) (f n) with z | z
    · rw [Nat.max_eq_right z]; exact Or.inr ⟨n, by omega, rfl⟩
    · rw [Nat.max_eq_left z]
      rcases mx_is (f := f) (n := n) with y | ⟨q, hq, e⟩
      · exact Or.inl y
      · exact Or.inr ⟨q, by omega, e⟩
theorem mx_eq {f : Nat → Nat} {n g : Nat} (h1 : ∀ q, q < n → f q ≤ g) (h2 : g = 0 ∨ ∃ q, q < n ∧ f q = g) : g = mx f n := by
  apply Nat.le_antisymm
  · rcases h2 with h | ⟨q, hq, e⟩
    · omega
    · rw [← e]; exact mx_le hq
  · rcases mx_is (f := f) (n := n) with h | ⟨q, hq, e⟩
    · omega
    · rw [← e]; exact h1 q hq
section XN
variable {key ldp : Nat → Nat} {dp : Nat} {efi ela eco ene : Nat → Nat} {rows : Nat → List Nat} {dep : Nat → Nat} {E : List Nat} {US : Nat → Prop}
theorem XR.co (h : XR key ldp dp efi ela eco ene rows dep E US) {r : Nat} (hr : r < 256) : eco r = (E.filter (fun k => rowOf dep k == r)).length := by
  rw [(h.1.1 r hr).1, ← h.2.2.2.2.1 r hr, List.length_map]
theorem XR.cnt (h : XR key ldp dp efi ela eco ene rows dep E US) {x : Nat} (hx : x < 256) : eco (x % 2 ^ dep x) = cntB E x (dep x) := by
  have hg := h.2.1.1
  have hb := h.2.1.2.1 x hx
  rw [h.co (m2 (by omega))]
  unfold cntB
  have : ∀ k, (rowOf dep k == x % 2 ^ dep x) = (hs k % 2 ^ dep x == x % 2 ^ dep x) := fun k => by
    rw [Bool.eq_iff_iff, beq_iff_eq, beq_iff_eq]
    exact h.2.1.row hx
  simp only [this]
theorem XR.co_le (h : XR key ldp dp efi ela eco ene rows dep E US) {r : Nat} (hr : r < 256) : eco r ≤ 120 := by
  rw [(h.1.1 r hr).1]; exact h.1.len hr
theorem rowOf_x {dep : Nat → Nat} {k : Nat} (h : dep (hs k % 256) ≤ 8) : rowOf dep k = hs k % 256 % 2 ^ dep (hs k % 256) := (m256 _ h).symm
theorem XR.canM (h : XR key ldp dp efi ela eco ene rows dep E US) {x cp : Nat} {mrg : Int32} (hx : x < 256) : (0 < ldp (x % 2 ^ dep x) ∧ ldp (bdy ldp (x % 2 ^ dep x)) = ldp (x % 2 ^ dep x) ∧ eco (x % 2 ^ dep x) + eco (bdy ldp (x % 2 ^ dep x)) ≤ cp) ↔ mcond cp x (dep, E, mrg) = true := by
  rw [mcond_iff]
  show _ ↔ 0 < dep x ∧ dep (x ^^^ 2 ^ (dep x - 1)) = dep x ∧ cntB E x (dep x - 1) ≤ cp
  obtain ⟨hR, hX, hl, hbd, hf, hu⟩ := id h
  have hg := hX.1
  have hb := hX.2.1 x hx
  have hr : x % 2 ^ dep x < 2 ^ dp := Nat.lt_of_lt_of_le (Nat.mod_lt _ (Nat.two_pow_pos _)) (p2_le hb)
  have hr2 : x % 2 ^ dep x < 256 := m2 (by omega)
  have e1 : ldp (x % 2 ^ dep x) = dep x := (hl _ hr).trans (hX.2.2 x _ hx hr2 (Nat.mod_mod _ _).symm)
  rw [e1]
  by_cases z : 0 < dep x
  · obtain ⟨c, hc⟩ : ∃ c, dep x = c + 1 := ⟨dep x - 1, by omega⟩
    have hbx : x ^^^ 2 ^ c < 256 := Nat.xor_lt_two_pow (n := 8) hx (Nat.pow_lt_pow_right (by decide) (by omega))
    have e2 : bdy ldp (x % 2 ^ dep x) = (x ^^^ 2 ^ c) % 2 ^ (c + 1) := by
      unfold bdy
      rw [e1, Nat.mod_mod, hc, Nat.add_sub_cancel, Nat.xor_mod_two_pow, Nat.mod_eq_of_lt (Nat.pow_lt_pow_right (by decide) (Nat.lt_succ_self c))]
    have e3 : (x ^^^ 2 ^ c) % 2 ^ (c + 1) < 2 ^ dp := Nat.lt_of_lt_of_le (Nat.mod_lt _ (Nat.two_pow_pos _)) (p2_le (by omega))
    have e4 : (x ^^^ 2 ^ c) % 2 ^ (c + 1) < 256 := m2 (by omega)
    rw [e2, hl _ e3, hc, Nat.add_sub_cancel]
    have e5 : dep ((x ^^^ 2 ^ c) % 2 ^ (c + 1)) = c + 1 ↔ dep (x ^^^ 2 ^ c) = c + 1 := by
      constructor
      · intro w
        rw [← w]
        exact hX.2.2 _ _ e4 hbx (by rw [w, Nat.mod_mod])
      · intro w
        exact (hX.2.2 _ _ hbx e4 (by rw [w, Nat.mod_mod])).trans w
    rw [e5]
    constructor
    · rintro ⟨-, w, w2⟩
      refine ⟨by omega, w, ?_⟩
      obtain ⟨y0, y1, a0, a1, b0, b1, c0, c1⟩ := two_of hx (by omega) hc w
      have k0 := h.cnt a0
      have k1 := h.cnt a1
      rw [b0, c0] at k0
      rw [b1, c1] at k1
      have ft := filter_two (E := E) (f := fun k => hs k % 2 ^ (c + 1)) (g := fun k => hs k % 2 ^ c) (a := x % 2 ^ c) (b := x % 2 ^ c + 2 ^ c) (c := x % 2 ^ c) (by have := Nat.two_pow_pos c; omega) (fun k => by
        constructor
        · intro y
          rcases bit_two (hs k) c with v | v <;> rw [y] at v
          · exact Or.inl v
          · exact Or.inr v
        · rintro (y | y) <;> (have y2 := congrArg (· % 2 ^ c) y; simp only [mmp _ (Nat.le_succ c), add_p2_mod _ (Nat.le_refl c), Nat.mod_mod] at y2; exact y2))
      have hsum : eco (x % 2 ^ (c + 1)) + eco ((x ^^^ 2 ^ c) % 2 ^ (c + 1)) = eco (x % 2 ^ c) + eco (x % 2 ^ c + 2 ^ c) := by
        rw [xor_p2, hs_bit]
        split
        · rw [Nat.add_zero]
        · rw [Nat.add_comm]
      unfold cntB at k0 k1 ⊢
      rw [c0] at k0
      rw [c1] at k1
      omega
    · rintro ⟨-, w, w2⟩
      refine ⟨by omega, w, ?_⟩
      obtain ⟨y0, y1, a0, a1, b0, b1, c0, c1⟩ := two_of hx (by omega) hc w
      have k0 := h.cnt a0
      have k1 := h.cnt a1
      rw [b0, c0] at k0
      rw [b1, c1] at k1
      have ft := filter_two (E := E) (f := fun k => hs k % 2 ^ (c + 1)) (g := fun k => hs k % 2 ^ c) (a := x % 2 ^ c) (b := x % 2 ^ c + 2 ^ c) (c := x % 2 ^ c) (by have := Nat.two_pow_pos c; omega) (fun k => by
        constructor
        · intro y
          rcases bit_two (hs k) c with v | v <;> rw [y] at v
          · exact Or.inl v
          · exact Or.inr v
        · rintro (y | y) <;> (have y2 := congrArg (· % 2 ^ c) y; simp only [mmp _ (Nat.le_succ c), add_p2_mod _ (Nat.le_refl c), Nat.mod_mod] at y2; exact y2))
      have hsum : eco (x % 2 ^ (c + 1)) + eco ((x ^^^ 2 ^ c) % 2 ^ (c + 1)) = eco (x % 2 ^ c) + eco (x % 2 ^ c + 2 ^ c) := by
        rw [xor_p2, hs_bit]
        split
        · rw [Nat.add_zero]
        · rw [Nat.add_comm]
      unfold cntB at k0 k1 w2
      rw [c0] at k0
      rw [c1] at k1
      omega
  · constructor <;> rintro ⟨w, -⟩ <;> exact absurd w z
/-- the directory has halved as often as it may -/
theorem XR.halve (h : XR key ldp dp efi ela eco ene rows dep E US) {g : Nat} (h1 : g ≤ dp) (h2 : g = 0 ∨ ∃ q, q < 2 ^ g ∧ ldp q = g) (h3 : ∀ j, g < j → j ≤ dp → ¬ ∃ q, q < 2 ^ j ∧ ldp q = j) : g = mx dep 256 ∧ XR key ldp g efi ela eco ene rows dep E US := by
  obtain ⟨hR, hX, hl, hbd, hf, hu⟩ := h
  have hg := hX.1
  have hall : ∀ q, q < 256 → dep q ≤ g := by
    intro q hq
    rcases Nat.lt_or_ge g (dep q) with z | z
    · have hd := hX.2.1 q hq
      have a : q % 2 ^ dep q < 2 ^ dep q := Nat.mod_lt _ (Nat.two_pow_pos _)
      have b : dep (q % 2 ^ dep q) = dep q := hX.2.2 q _ hq (m2 (by omega)) (Nat.mod_mod _ _).symm
      exact absurd ⟨q % 2 ^ dep q, a, (hl _ (Nat.lt_of_lt_of_le a (p2_le hd))).trans b⟩ (h3 (dep q) z hd)
    · exact z
  refine ⟨mx_eq hall (h2.imp id (fun ⟨q, a, b⟩ => ⟨q, Nat.lt_of_lt_of_le a (p8 (by omega)), (hl q (Nat.lt_of_lt_of_le a (p2_le h1))).symm.trans b⟩)), hR, ⟨by omega, hall, hX.2.2⟩, fun q hq => hl q (Nat.lt_of_lt_of_le hq (p2_le h1)), hbd, hf, hu⟩
theorem XR.empty0 {f l c n ldp2 : Nat → Nat} {US2 : Nat → Prop} (h : RR f l c n (fun _ => [])) (hbd : ∀ q, q < 256 → ldp q ≤ 8) (h2 : ldp2 = va_up ldp 0 0) : XR key ldp2 0 f l c n (fun _ => []) (fun _ => 0) [] US2 := by
  refine ⟨h, ⟨by decide, fun _ _ => Nat.le_refl 0, fun _ _ _ _ _ => rfl⟩, fun q hq => ?_, fun q hq => ?_, fun r _ => rfl, fun r _ e he => absurd he List.not_mem_nil⟩
  · have : q = 0 := by simpa using hq
    rw [h2, this, up_s]
  · rw [h2]
    by_cases z : q = 0
    · rw [z, up_s]; omega
    · rw [up_n _ _ z]; exact hbd q hq
end XN
