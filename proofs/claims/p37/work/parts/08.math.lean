theorem tq_inc1 (a : Nat) : nI a + Int32.ofInt 1 = nI (a + 1) := by
  rw [show Int32.ofInt 1 = nI 1 from by decide]
  exact nI_add a 1
theorem tq_inc3 (a : Nat) : nI a + Int32.ofInt 3 = nI (a + 3) := by
  rw [show Int32.ofInt 3 = nI 3 from by decide]
  exact nI_add a 3
theorem tq_dec {a : Nat} (h : 0 < a) : nI a + Int32.ofInt (-1) = nI (a - 1) := by
  obtain ⟨b, rfl⟩ : ∃ b, a = b + 1 := ⟨a - 1, by omega⟩
  rw [show Int32.ofInt (-1) = -1 from by decide]
  exact pk_m1 b
/-- the hash of a key -/
def hs (k : Nat) : Nat := k * 40503 % 2 ^ 16
/-- so many bits of x, in reverse -/
def rv (x : Nat) : Nat → Nat
  | 0 => 0
  | k + 1 => 2 * rv x k + x / 2 ^ k % 2 ^ 1
def isKey (x : Int32) : Prop := ∃ k : Nat, k < 65536 ∧ x = nI k
theorem tq_rng {x : Int32} {M : Nat} (hM : M < 2 ^ 31) (h0 : ¬ x < 0) (h1 : x ≤ nI M) : ∃ k : Nat, k ≤ M ∧ x = nI k := nI_of2 (nI_toInt hM) h0 h1
theorem tq_rngN {x : Int32} {M : Nat} (hM : M < 2 ^ 31) (h : x < 0 ∨ ¬ x ≤ nI M) : ¬ ∃ k : Nat, k ≤ M ∧ x = nI k := by
  rintro ⟨k, hk, rfl⟩
  rcases h with h | h
  · exact nI_pos (by omega) h
  · exact h (nI_le hk (by omega))
theorem hs_lt (k : Nat) : hs k < 65536 := Nat.mod_lt _ (by decide)
theorem p2_le {b c : Nat} (h : b ≤ c) : 2 ^ b ≤ 2 ^ c := Nat.pow_le_pow_right (by decide) h
theorem p2_pos (b : Nat) : 1 ≤ 2 ^ b := Nat.one_le_two_pow
theorem rv_lt (x : Nat) : ∀ k, rv x k < 2 ^ k
  | 0 => Nat.one_pos
  | k + 1 => by
    have h := rv_lt x k
    have h2 : x / 2 ^ k % 2 ^ 1 < 2 ^ 1 := Nat.mod_lt _ (by decide)
    rw [Nat.pow_succ]
    show 2 * rv x k + x / 2 ^ k % 2 ^ 1 < 2 ^ k * 2
    omega
