/-! bits in reverse -/
theorem rv_split (x b : Nat) : ∀ j, rv x (b + j) = rv x b * 2 ^ j + rv (x / 2 ^ b) j
  | 0 => by
    show rv x b = rv x b * 1 + 0
    omega
  | j + 1 => by
    have h := rv_split x b j
    have e : x / 2 ^ (b + j) = x / 2 ^ b / 2 ^ j := by rw [Nat.pow_add, Nat.div_div_eq_div_mul]
    show 2 * rv x (b + j) + x / 2 ^ (b + j) % 2 ^ 1 = rv x b * 2 ^ (j + 1) + (2 * rv (x / 2 ^ b) j + x / 2 ^ b / 2 ^ j % 2 ^ 1)
    rw [h, e, Nat.pow_succ 2 j, ← Nat.mul_assoc]
    omega
theorem rv_zero : ∀ k, rv 0 k = 0
  | 0 => rfl
  | k + 1 => by
    show 2 * rv 0 k + 0 / 2 ^ k % 2 ^ 1 = 0
    rw [rv_zero k, Nat.zero_div]
theorem rv_inj {x y : Nat} : ∀ {k : Nat}, rv x k = rv y k → x % 2 ^ k = y % 2 ^ k
  | 0, _ => by rw [Nat.pow_zero, Nat.mod_one, Nat.mod_one]
  | k + 1, h => by
    have h2 : 2 * rv x k + x / 2 ^ k % 2 ^ 1 = 2 * rv y k + y / 2 ^ k % 2 ^ 1 := h
    have a : x / 2 ^ k % 2 ^ 1 < 2 ^ 1 := Nat.mod_lt _ (by decide)
    have b : y / 2 ^ k % 2 ^ 1 < 2 ^ 1 := Nat.mod_lt _ (by decide)
    have e1 : rv x k = rv y k := by omega
    have e2 : x / 2 ^ k % 2 ^ 1 = y / 2 ^ k % 2 ^ 1 := by omega
    rw [hs_bit x k, hs_bit y k, rv_inj e1, e2]
theorem rv_congr {x y : Nat} : ∀ {k : Nat}, x % 2 ^ k = y % 2 ^ k → rv x k = rv y k
  | 0, _ => rfl
  | k + 1, h => by
    have h1 : x % 2 ^ k = y % 2 ^ k := by
      have := congrArg (· % 2 ^ k) h
      simpa only [mmp _ (Nat.le_succ k)] using this
    have h2 : x / 2 ^ k % 2 ^ 1 = y / 2 ^ k % 2 ^ 1 := by
      rw [Nat.pow_succ] at h
      have a := Nat.mod_mul_right_div_self x (2 ^ k) 2
      have b := Nat.mod_mul_right_div_self y (2 ^ k) 2
      rw [h] at a
      exact a.symm.trans b
    show 2 * rv x k + x / 2 ^ k % 2 ^ 1 = 2 * rv y k + y / 2 ^ k % 2 ^ 1
    rw [rv_congr h1, h2]
theorem rv_rv (x : Nat) : ∀ k, rv (rv x k) k = x % 2 ^ k
  | 0 => by rw [Nat.pow_zero, Nat.mod_one]; rfl
  | k + 1 => by
    have ih := rv_rv x k
    have hb : x / 2 ^ k % 2 ^ 1 < 2 ^ 1 := Nat.mod_lt _ (by decide)
    have hy : rv x (k + 1) = 2 * rv x k + x / 2 ^ k % 2 ^ 1 := rfl
    have hs1 := rv_split (rv x (k + 1)) 1 k
    have e1 : rv (rv x (k + 1)) 1 = x / 2 ^ k % 2 ^ 1 := by
      show 2 * 0 + rv x (k + 1) / 2 ^ 0 % 2 ^ 1 = _
      rw [hy, Nat.pow_zero, Nat.div_one]
      omega
    have e2 : rv x (k + 1) / 2 ^ 1 = rv x k := by
      rw [hy]
      omega
    rw [e1, e2, ih] at hs1
    rw [Nat.add_comm 1 k] at hs1
    rw [hs1, hs_bit x k]
    rcases (show x / 2 ^ k % 2 ^ 1 = 0 ∨ x / 2 ^ k % 2 ^ 1 = 1 by omega) with q | q
    · rw [q, if_pos rfl]; omega
    · rw [q, if_neg (by decide)]; omega
/-! one step of a scan -/
theorem rv8 (x : Nat) {b : Nat} (hb : b ≤ 8) : ∃ r, r < 2 ^ (8 - b) ∧ rv x 8 = rv x b * 2 ^ (8 - b) + r ∧ r = rv (x / 2 ^ b) (8 - b) := by
  refine ⟨_, rv_lt (x / 2 ^ b) (8 - b), ?_, rfl⟩
  have h := rv_split x b (8 - b)
  rw [show b + (8 - b) = 8 by omega] at h
  exact h
theorem nxc_w {b c : Nat} (hb : b ≤ 8) : (nxc b c = 0 ∧ rv c b + 1 = 2 ^ b) ∨ (nxc b c ≠ 0 ∧ nxc b c < 2 ^ b ∧ rv (nxc b c) 8 = (rv c b + 1) * 2 ^ (8 - b) ∧ rv (nxc b c) b = rv c b + 1) := by
  have hlt := rv_lt c b
  unfold nxc
  by_cases z : rv c b + 1 = 2 ^ b
  · rw [if_pos z]; exact Or.inl ⟨rfl, z⟩
  · rw [if_neg z]
    have hm : rv c b + 1 < 2 ^ b := by omega
    have h1 := rv_rv (rv c b + 1) b
    rw [Nat.mod_eq_of_lt hm] at h1
    have h2 := rv_lt (rv c b + 1) b
    refine Or.inr ⟨fun e => ?_, h2, ?_, h1⟩
    · rw [e, rv_zero] at h1; omega
    · obtain ⟨r, -, a2, a3⟩ := rv8 (rv (rv c b + 1) b) hb
      rw [a2, a3, h1, Nat.div_eq_of_lt h2, rv_zero, Nat.add_zero]
theorem scan_lt {b c : Nat} (hb : b ≤ 8) : nxc b c < 256 := by
  rcases nxc_w (c := c) hb with ⟨h, -⟩ | ⟨-, h, -⟩
  · rw [h]; decide
  · exact Nat.lt_of_lt_of_le h (p8 hb)
theorem scan_up {b c : Nat} (hb : b ≤ 8) (h : nxc b c ≠ 0) : rv c 8 < rv (nxc b c) 8 := by
  rcases nxc_w (c := c) hb with ⟨h1, -⟩ | ⟨-, -, h1, -⟩
  · exact absurd h1 h
  · obtain ⟨r, a1, a2, -⟩ := rv8 c hb
    rw [h1, a2, Nat.add_mul, Nat.one_mul]
    omega
theorem scan_step {b c x : Nat} (hb : b ≤ 8) (h : nxc b c = 0 ∨ rv x 8 < rv (nxc b c) 8) : rv x 8 < rv c 8 ∨ x % 2 ^ b = c % 2 ^ b := by
  obtain ⟨r, a1, a2, -⟩ := rv8 x hb
  obtain ⟨r2, b1, b2, -⟩ := rv8 c hb
  have hle : rv x b ≤ rv c b := by
    have hx := rv_lt x b
    rcases nxc_w (c := c) hb with ⟨h1, h2⟩ | ⟨h1, -, h2, -⟩
    · omega
    · rcases h with h | h
      · exact absurd h h1
      · rw [h2, a2] at h
        have h3 : rv x b * 2 ^ (8 - b) < (rv c b + 1) * 2 ^ (8 - b) := by omega
        have := Nat.lt_of_mul_lt_mul_right h3
        omega
  rcases Nat.lt_or_eq_of_le hle with q | q
  · left
    have h3 : (rv x b + 1) * 2 ^ (8 - b) ≤ rv c b * 2 ^ (8 - b) := Nat.mul_le_mul_right _ q
    rw [Nat.add_mul, Nat.one_mul] at h3
    omega
  · exact Or.inr (rv_inj q)
/-- where the cursor stands at a bucket's lowest slot -/
theorem scan_in {b c x : Nat} (hb : b ≤ 8) (hc : c < 2 ^ b) (h : x % 2 ^ b = c % 2 ^ b) : ¬ rv x 8 < rv c 8 ∧ (nxc b c = 0 ∨ rv x 8 < rv (nxc b c) 8) := by
  obtain ⟨r, a1, a2, -⟩ := rv8 x hb
  obtain ⟨r2, b1, b2, b3⟩ := rv8 c hb
  rw [Nat.div_eq_of_lt hc, rv_zero] at b3
  have e := rv_congr h
  constructor
  · rw [a2, b2, e]; omega
  · rcases nxc_w (c := c) hb with ⟨h1, h2⟩ | ⟨h1, -, h2, -⟩
    · exact Or.inl h1
    · right
      rw [h2, a2, e, Nat.add_mul, Nat.one_mul]
      omega
theorem scan_al {dep : Nat → Nat} {g c : Nat} (h : XOK dep g) (hc : c < 256) : nxc (dep c) c < 2 ^ dep (nxc (dep c) c) := by
  have hb : dep c ≤ 8 := Nat.le_trans (h.2.1 c hc) h.1
  have hn : nxc (dep c) c < 256 := scan_lt hb
  have hb' : dep (nxc (dep c) c) ≤ 8 := Nat.le_trans (h.2.1 _ hn) h.1
  rcases nxc_w (c := c) hb with ⟨h1, -⟩ | ⟨h1, h2, -, h3⟩
  · rw [h1]; exact Nat.two_pow_pos _
  · generalize hx : nxc (dep c) c = x at hn hb' h1 h2 h3 ⊢
    rcases Nat.lt_or_ge (dep x) (dep c) with q | q
    · obtain ⟨j, hj⟩ : ∃ j, dep c = dep x + j := ⟨dep c - dep x, by omega⟩
      have s1 := rv_split x (dep x) j
      have s2 := rv_split c (dep x) j
      rw [← hj] at s1 s2
      have l2 := rv_lt (c / 2 ^ dep x) j
      have l1 := rv_lt (x / 2 ^ dep x) j
      rcases Nat.eq_zero_or_pos (rv (x / 2 ^ dep x) j) with z | z
      · have i1 := rv_inj (z.trans (rv_zero j).symm)
        rw [Nat.zero_mod] at i1
        have i2 : x / 2 ^ dep x < 2 ^ j := Nat.div_lt_of_lt_mul (by rw [← Nat.pow_add, ← hj]; exact h2)
        rw [Nat.mod_eq_of_lt i2] at i1
        have := Nat.lt_of_div_eq_zero (Nat.two_pow_pos (dep x)) i1
        exact this
      · exfalso
        have e : rv c (dep x) = rv x (dep x) := by
          have e0 : rv c (dep x) * 2 ^ j + rv (c / 2 ^ dep x) j + 1 = rv x (dep x) * 2 ^ j + rv (x / 2 ^ dep x) j := by omega
          rcases Nat.lt_trichotomy (rv c (dep x)) (rv x (dep x)) with w | w | w
          · have := Nat.mul_le_mul_right (2 ^ j) (show rv c (dep x) + 1 ≤ rv x (dep x) from w)
            rw [Nat.add_mul, Nat.one_mul] at this
            omega
          · exact w
          · have := Nat.mul_le_mul_right (2 ^ j) (show rv x (dep x) + 1 ≤ rv c (dep x) from w)
            rw [Nat.add_mul, Nat.one_mul] at this
            omega
        have e2 := rv_inj e
        have := h.2.2 x c hn hc e2.symm
        omega
    · exact Nat.lt_of_lt_of_le h2 (p2_le q)
/-- how many buckets a scan has come to -/
def scB (dep : Nat → Nat) (c : Nat) : Nat → Nat := fun q => if q < 2 ^ dep q ∧ rv q 8 < rv c 8 then 1 else 0
def scA (dep : Nat → Nat) : Nat → Nat := fun q => if q < 2 ^ dep q then 1 else 0
theorem so_one {f f' : Nat → Nat} {c : Nat} : ∀ {n : Nat}, (∀ q, q < n → f' q = f q + if q = c then 1 else 0) → so f' n = so f n + if c < n then 1 else 0
  | 0, _ => rfl
  | n + 1, h => by
    have ih := so_one (n := n) (fun q hq => h q (by omega))
    have h1 := h n (Nat.lt_succ_self n)
    show so f' n + f' n = so f n + f n + _
    rw [ih, h1]
    by_cases z : n = c
    · rw [if_pos z, if_neg (by omega), if_pos (by omega)]; omega
    · rw [if_neg z]
      by_cases y : c < n
      · rw [if_pos y, if_pos (by omega)]; omega
      · rw [if_neg y, if_neg (by omega)]; omega
theorem so_zero {f : Nat → Nat} : ∀ {n : Nat}, (∀ q, q < n → f q = 0) → so f n = 0
  | 0, _ => rfl
  | n + 1, h => by
    show so f n + f n = 0
    rw [so_zero (n := n) (fun q hq => h q (by omega)), h n (Nat.lt_succ_self n)]
theorem scan_cnt {dep : Nat → Nat} {g c : Nat} (h : XOK dep g) (hc : c < 256) (ha : c < 2 ^ dep c) : so (if nxc (dep c) c = 0 then scA dep else scB dep (nxc (dep c) c)) 256 = so (scB dep c) 256 + 1 := by
  have hb : dep c ≤ 8 := Nat.le_trans (h.2.1 c hc) h.1
  have key : ∀ q, q < 256 → q < 2 ^ dep q → ((nxc (dep c) c = 0 ∨ rv q 8 < rv (nxc (dep c) c) 8) ↔ (rv q 8 < rv c 8 ∨ q = c)) := by
    intro q hq hqa
    constructor
    · intro w
      rcases scan_step hb w with w | w
      · exact Or.inl w
      · have e := h.2.2 c q hc hq w.symm
        rw [e] at hqa
        rw [Nat.mod_eq_of_lt hqa, Nat.mod_eq_of_lt ha] at w
        exact Or.inr w
    · rintro (w | rfl)
      · by_cases z : nxc (dep c) c = 0
        · exact Or.inl z
        · have := scan_up hb z
          exact Or.inr (by omega)
      · exact (scan_in hb ha rfl).2
  have h1 : ∀ q, q < 256 → (if nxc (dep c) c = 0 then scA dep else scB dep (nxc (dep c) c)) q = scB dep c q + if q = c then 1 else 0 := by
    intro q hq
    by_cases qa : q < 2 ^ dep q
    · have k := key q hq qa
      have e1 : (if nxc (dep c) c = 0 then scA dep else scB dep (nxc (dep c) c)) q = if (nxc (dep c) c = 0 ∨ rv q 8 < rv (nxc (dep c) c) 8) then 1 else 0 := by
        by_cases z : nxc (dep c) c = 0
        · rw [if_pos z, if_pos (Or.inl z)]
          exact if_pos qa
        · rw [if_neg z]
          unfold scB
          by_cases y : rv q 8 < rv (nxc (dep c) c) 8
          · rw [if_pos ⟨qa, y⟩, if_pos (Or.inr y)]
          · rw [if_neg (fun w => y w.2), if_neg (fun w => w.elim z y)]
      rw [e1]
      unfold scB
      by_cases y : q = c
      · rw [if_pos (k.mpr (Or.inr y)), if_pos y, if_neg (fun w => by rw [y] at w; exact absurd w.2 (Nat.lt_irrefl _))]
      · rw [if_neg y]
        by_cases w : rv q 8 < rv c 8
        · rw [if_pos (k.mpr (Or.inl w)), if_pos ⟨qa, w⟩]
        · rw [if_neg (fun v => (k.mp v).elim w y), if_neg (fun v => w v.2)]
    · have e1 : (if nxc (dep c) c = 0 then scA dep else scB dep (nxc (dep c) c)) q = 0 := by
        by_cases z : nxc (dep c) c = 0
        · rw [if_pos z]; exact if_neg qa
        · rw [if_neg z]; exact if_neg (fun w => qa w.1)
      rw [e1, show scB dep c q = 0 from if_neg (fun w => qa w.1), if_neg (fun y => qa (by rw [y]; exact ha))]
  rw [so_one h1, if_pos hc]
theorem scan_cnt0 (dep : Nat → Nat) : so (scB dep 0) 256 = 0 := so_zero (fun q _ => if_neg (fun w => by rw [rv_zero] at w; exact absurd w.2 (Nat.not_lt_zero _)))
