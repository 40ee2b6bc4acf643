/-! the law's own keys: what it holds of the store -/
def HI (kp kh : Nat → Nat) (S : List (Nat × Nat)) (N : Nat) : Prop :=
  (∀ i, i < N → kp i / 256 = i ∧ kp i < 65536) ∧ (∀ i, kh i ≤ 2) ∧ (∀ i, N ≤ i → kh i = 0) ∧ ∀ q, q ∈ S ↔ ∃ i, i < N ∧ kh i ≠ 0 ∧ q = (kp i, 5)
section HIS
variable {kp kh : Nat → Nat} {S : List (Nat × Nat)} {N : Nat}
theorem HI.inj (h : HI kp kh S N) {i j : Nat} (hi : i < N) (hj : j < N) (e : kp i = kp j) : i = j := by
  have a := (h.1 i hi).1
  have b := (h.1 j hj).1
  rw [e] at a
  omega
theorem HI.val (h : HI kp kh S N) {k w : Nat} (hm : (k, w) ∈ S) : w = 5 := by
  obtain ⟨i, -, -, e⟩ := (h.2.2.2 _).mp hm
  exact congrArg Prod.snd e
theorem HI.in_ (h : HI kp kh S N) {i : Nat} (hi : i < N) : (∃ w, (kp i, w) ∈ S) ↔ kh i ≠ 0 := by
  constructor
  · rintro ⟨w, hm⟩
    obtain ⟨j, hj, h1, e⟩ := (h.2.2.2 _).mp hm
    have := h.inj hi hj (congrArg Prod.fst e)
    rw [this]; exact h1
  · intro h1
    exact ⟨5, (h.2.2.2 _).mpr ⟨i, hi, h1, rfl⟩⟩
theorem HI.len (h : HI kp kh S N) (hS : SS S) : S.length ≤ N := by
  rw [← List.length_map (f := fun q : Nat × Nat => q.1 / 256)]
  refine nodup_len N _ ?_ (fun e he => ?_)
  · refine List.pairwise_map.mpr (List.Pairwise.imp_of_mem (fun {a b} ha hb hab => ?_) hS)
    obtain ⟨i, hi, -, e1⟩ := (h.2.2.2 _).mp ha
    obtain ⟨j, hj, -, e2⟩ := (h.2.2.2 _).mp hb
    rw [e1, e2] at hab ⊢
    show kp i / 256 ≠ kp j / 256
    rw [(h.1 i hi).1, (h.1 j hj).1]
    intro y
    rw [y] at hab
    exact absurd hab (Nat.lt_irrefl _)
  · obtain ⟨a, ha, rfl⟩ := List.mem_map.mp he
    obtain ⟨i, hi, -, e1⟩ := (h.2.2.2 _).mp ha
    rw [e1]
    show kp i / 256 < N
    rw [(h.1 i hi).1]; exact hi
theorem HI.same (h : HI kp kh S N) {i : Nat} : HI kp (va_up kh i (kh i)) S N := by
  have e : va_up kh i (kh i) = kh := funext (fun j => by
    by_cases z : j = i
    · rw [z, up_s]
    · rw [up_n _ _ z])
  rw [e]; exact h
theorem HI.rep (h : HI kp kh S N) {i : Nat} (hi : i < N) : repS S (kp i) 5 = S := by
  unfold repS
  refine (List.map_congr_left (fun q hq => ?_)).trans (List.map_id S)
  obtain ⟨j, hj, -, e⟩ := (h.2.2.2 _).mp hq
  rw [e]
  show (if kp j = kp i then (kp i, 5) else (kp j, 5)) = (kp j, 5)
  split
  · rename_i y; rw [y]
  · rfl
theorem HI.add (h : HI kp kh S N) {i v : Nat} (hi : i < N) (h0 : kh i = 0) (hv : 1 ≤ v) (hv2 : v ≤ 2) : HI kp (va_up kh i v) (insS S (kp i) 5) N := by
  refine ⟨h.1, fun j => ?_, fun j hj => ?_, fun q => ?_⟩
  · by_cases z : j = i
    · rw [z, up_s]; exact hv2
    · rw [up_n _ _ z]; exact h.2.1 j
  · rw [up_n _ _ (by omega)]; exact h.2.2.1 j hj
  · have hno : ∀ q ∈ S, q.1 ≠ kp i := fun q hq y => by
      have := (h.in_ hi).mp ⟨q.2, by rw [← y]; exact hq⟩
      exact this h0
    rw [insS_mem hno]
    constructor
    · rintro (rfl | hq)
      · exact ⟨i, hi, by rw [up_s]; omega, rfl⟩
      · obtain ⟨j, hj, h1, e⟩ := (h.2.2.2 _).mp hq
        exact ⟨j, hj, by rw [up_n _ _ (fun y => by rw [y] at h1; exact h1 h0)]; exact h1, e⟩
    · rintro ⟨j, hj, h1, e⟩
      by_cases z : j = i
      · left; rw [e, z]
      · right
        rw [up_n _ _ z] at h1
        exact (h.2.2.2 _).mpr ⟨j, hj, h1, e⟩
theorem HI.rem (h : HI kp kh S N) {i : Nat} (hi : i < N) : HI kp (va_up kh i 0) (remS S (kp i)) N := by
  refine ⟨h.1, fun j => ?_, fun j hj => ?_, fun q => ?_⟩
  · by_cases z : j = i
    · rw [z, up_s]; omega
    · rw [up_n _ _ z]; exact h.2.1 j
  · rw [up_n _ _ (by omega)]; exact h.2.2.1 j hj
  · unfold remS
    rw [List.mem_filter, h.2.2.2 q]
    constructor
    · rintro ⟨⟨j, hj, h1, e⟩, h2⟩
      have z : j ≠ i := fun y => by rw [e, y] at h2; simp at h2
      exact ⟨j, hj, by rw [up_n _ _ z]; exact h1, e⟩
    · rintro ⟨j, hj, h1, e⟩
      have z : j ≠ i := fun y => by rw [y, up_s] at h1; exact h1 rfl
      rw [up_n _ _ z] at h1
      refine ⟨⟨j, hj, h1, e⟩, ?_⟩
      have : kp j ≠ kp i := fun y => z (h.inj hj hi y)
      rw [e]; simpa using this
theorem HI.none (h : HI kp kh S N) {i : Nat} (h0 : kh i = 0) : HI kp (va_up kh i 0) S N := by
  have e := h.same (i := i)
  rw [h0] at e
  exact e
/-- one key more -/
theorem HI.more (h : HI kp kh S N) {x : Nat} (hx : x / 256 = N) (hx2 : x < 65536) : HI (va_up kp N x) kh S (N + 1) := by
  refine ⟨fun i hi => ?_, h.2.1, fun i hi => h.2.2.1 i (by omega), fun q => ?_⟩
  · by_cases z : i = N
    · rw [z, up_s]; exact ⟨hx, hx2⟩
    · rw [up_n _ _ z]; exact h.1 i (by omega)
  · rw [h.2.2.2 q]
    constructor
    · rintro ⟨j, hj, h1, e⟩
      exact ⟨j, by omega, h1, by rw [up_n _ _ (by omega)]; exact e⟩
    · rintro ⟨j, hj, h1, e⟩
      have z : j ≠ N := fun y => h1 (h.2.2.1 j (by omega))
      exact ⟨j, by omega, h1, by rw [up_n _ _ z] at e; exact e⟩
end HIS
/-! what a bucket of the extendible table holds -/
section CRK
variable {key val ord : Nat → Nat} {tk cp : Nat} {efi ela eco ene ldp : Nat → Nat} {dp : Nat} {lfi lla lco lne : Nat → Nat} {lev ptr llo lhi : Nat} {dep : Nat → Nat} {E L : List Nat}
theorem CR.E_iff (h : CR key val ord tk cp efi ela eco ene ldp dp lfi lla lco lne lev ptr llo lhi dep E L) (k : Nat) : k ∈ E ↔ ∃ w, (k, w) ∈ stl key val ord tk := by
  obtain ⟨hSO, -, -, ⟨rX, hXR⟩, -, hEL⟩ := h
  constructor
  · intro hk
    have hr : rowOf dep k < 256 := by
      unfold rowOf
      exact m2 (Nat.le_trans (hXR.2.1.2.1 _ (mod_lt256 _)) hXR.2.1.1)
    have h2 : k ∈ (rX (rowOf dep k)).map key := by
      rw [hXR.2.2.2.2.1 _ hr]
      exact List.mem_filter.mpr ⟨hk, by simp⟩
    obtain ⟨en, h3, h4⟩ := List.mem_map.mp h2
    have hu := hXR.2.2.2.2.2 _ hr en h3
    exact ⟨val en, (hSO.get hu h4 _).mpr rfl⟩
  · rintro ⟨w, hm⟩
    obtain ⟨i, hi, e⟩ := stl_mem.mp hm
    have := (hEL i hi).1
    rw [show key (ord i) = k from congrArg Prod.fst e] at this
    exact this
theorem CR.E_lt (h : CR key val ord tk cp efi ela eco ene ldp dp lfi lla lco lne lev ptr llo lhi dep E L) {k : Nat} (hk : k ∈ E) : k < 65536 := by
  obtain ⟨w, hm⟩ := (h.E_iff k).mp hk
  obtain ⟨i, hi, e⟩ := stl_mem.mp hm
  have := (h.1.2.2.2.2 (ord i)).1
  rw [show key (ord i) = k from congrArg Prod.fst e] at this
  exact this
theorem CR.XO (h : CR key val ord tk cp efi ela eco ene ldp dp lfi lla lco lne lev ptr llo lhi dep E L) : XOK dep dp := by
  obtain ⟨-, -, -, ⟨rX, hXR⟩, -, -⟩ := h
  exact hXR.2.1
theorem CR.B_nodup (h : CR key val ord tk cp efi ela eco ene ldp dp lfi lla lco lne lev ptr llo lhi dep E L) {x : Nat} (hx : x < 256) : (clB E x (dep x)).Nodup ∧ (clB E x (dep x)).length ≤ 120 := by
  obtain ⟨hSO, -, -, ⟨rX, hXR⟩, -, -⟩ := h
  have hr : x % 2 ^ dep x < 256 := m2 (Nat.le_trans (hXR.2.1.2.1 _ hx) hXR.2.1.1)
  rw [← hXR.cls hx, List.length_map]
  refine ⟨List.pairwise_map.mpr (List.Pairwise.imp_of_mem (fun {a b} ha hb hab e => ?_) (hXR.1.1 _ hr).2.2.2.2.2), hXR.1.len hr⟩
  exact hab (hSO.injU a b (hXR.2.2.2.2.2 _ hr a ha) (hXR.2.2.2.2.2 _ hr b hb) e)
theorem CR.slot (h : CR key val ord tk cp efi ela eco ene ldp dp lfi lla lco lne lev ptr llo lhi dep E L) {c : Nat} (hc : c < 256) : dep (c % 2 ^ dp) = dep c ∧ clB E (c % 2 ^ dp) (dep c) = clB E c (dep c) := by
  have hX := h.XO
  have hd := hX.2.1 c hc
  have e : dep (c % 2 ^ dp) = dep c := hX.2.2 c (c % 2 ^ dp) hc (m2 hX.1) (by rw [mmp _ hd])
  refine ⟨e, ?_⟩
  unfold clB
  rw [mmp _ hd]
theorem nd_count {k : Nat} : ∀ {B : List Nat}, B.Nodup → B.count k = if k ∈ B then 1 else 0
  | [], _ => by simp
  | x :: B, h => by
    have h1 := List.nodup_cons.mp h
    rw [List.count_cons, nd_count h1.2]
    by_cases z : x = k
    · have : k ∉ B := by rw [← z]; exact h1.1
      simp [z, this]
    · have z2 : ¬ k = x := fun y => z y.symm
      simp [z, z2]
theorem clB_mem {k x b : Nat} : k ∈ clB E x b ↔ k ∈ E ∧ hs k % 2 ^ b = x % 2 ^ b := by
  unfold clB
  rw [List.mem_filter, beq_iff_eq]
end CRK
