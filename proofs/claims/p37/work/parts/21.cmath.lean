
def isVal (x : Int32) : Prop := ∃ v : Nat, v < 1000000 ∧ x = nI v
def arep (A : AS) (k v : Nat) : AS := ((repS A.1.1 k v, A.1.2), A.2)
def mkA (key val ord : Nat → Nat) (tk cp : Nat) (dep : Nat → Nat) (dp : Nat) (E : List Nat) (dbl hlv spl mrg : Int32) (L : List Nat) (lev ptr llo lhi : Nat) (lsp : Int32) : AS := ((stl key val ord tk, cp, llo, lhi), (dep, dp, E, dbl, hlv, spl, mrg), (L, lev, ptr, lsp))
/-- what the class's cells say of both tables -/
def CR (key val ord : Nat → Nat) (tk cp : Nat) (efi ela eco ene ldp : Nat → Nat) (dp : Nat) (lfi lla lco lne : Nat → Nat) (lev ptr llo lhi : Nat) (dep : Nat → Nat) (E L : List Nat) : Prop :=
  SO key val ord tk ∧ (1 ≤ cp ∧ cp ≤ 5) ∧ (llo ≤ 50 ∧ 50 ≤ lhi ∧ lhi ≤ 200) ∧ (∃ rows, XR key ldp dp efi ela eco ene rows dep E (US ord tk)) ∧ (∃ rows, YR key lev ptr lfi lla lco lne rows L (US ord tk)) ∧ ∀ i, i < tk → key (ord i) ∈ E ∧ key (ord i) ∈ L
def getP (S : List (Nat × Nat)) (kx r : Int32) : Prop := ∃ k, k < 65536 ∧ kx = nI k ∧ ((∃ v, (k, v) ∈ S ∧ r = nI v) ∨ ((∀ v, (k, v) ∉ S) ∧ r = -1))
def clB (E : List Nat) (x b : Nat) : List Nat := E.filter (fun k => hs k % 2 ^ b == x % 2 ^ b)
def lnB (L : List Nat) (v p r : Nat) : List Nat := L.filter (fun k => linOf v p k == r)
def prP (B : List Nat) (cap k : Nat) (r : Int32) : Prop := (∃ i, i < B.length ∧ B.getD i 0 = k ∧ (∀ j, j < i → B.getD j 0 ≠ k) ∧ r = nI (1 + i / cap)) ∨ ((∀ j, j < B.length → B.getD j 0 ≠ k) ∧ r = nI (1 + (B.length - 1) / cap))
def nxc (b c : Nat) : Nat := if rv c b + 1 = 2 ^ b then 0 else rv (rv c b + 1) b
theorem so_ext {f g : Nat → Nat} {n m : Nat} (h1 : ∀ i, i < n → f i = g i) (h2 : n ≤ m) (h3 : ∀ i, n ≤ i → i < m → g i = 0) : so f n = so g m := by
  induction m with
  | zero =>
    have : n = 0 := by omega
    subst this; rfl
  | succ m ih =>
    rcases Nat.lt_or_ge m n with q | q
    · have : n = m + 1 := by omega
      subst this
      have h : ∀ k, k ≤ m + 1 → so f k = so g k := by
        intro k
        induction k with
        | zero => intro _; rfl
        | succ k ihk =>
          intro hk
          show so f k + f k = so g k + g k
          rw [ihk (by omega), h1 k (by omega)]
      exact h _ (Nat.le_refl _)
    · show _ = so g m + g m
      rw [h3 m q (by omega), Nat.add_zero]
      exact ih q (fun i a b => h3 i a (by omega))
section CM
variable {key val ord : Nat → Nat} {tk cp : Nat} {efi ela eco ene ldp : Nat → Nat} {dp : Nat} {lfi lla lco lne : Nat → Nat} {lev ptr llo lhi : Nat} {dep : Nat → Nat} {E L : List Nat} {rows : Nat → List Nat}
theorem XR.cls {U : Nat → Prop} (h : XR key ldp dp efi ela eco ene rows dep E U) {x : Nat} (hx : x < 256) : (rows (x % 2 ^ dep x)).map key = clB E x (dep x) := by
  have hg := h.2.1.1
  have hb := h.2.1.2.1 x hx
  rw [h.2.2.2.2.1 _ (m2 (by omega))]
  unfold clB
  refine List.filter_congr (fun k _ => ?_)
  rw [Bool.eq_iff_iff, beq_iff_eq, beq_iff_eq]
  exact h.2.1.row hx
theorem XR.mem {U : Nat → Prop} (h : XR key ldp dp efi ela eco ene rows dep E U) {kx en : Nat} (hm : en ∈ rows (xrow ldp dp kx)) (he : key en = kx) : 1 ≤ en ∧ en ≤ 120 ∧ U en ∧ en ∈ rows (rowOf dep (key en)) ∧ kx ∈ E := by
  have hr : xrow ldp dp kx < 256 := xrow_lt h.2.1.1
  have h1 := (h.1.1 _ hr).2.2.2.2.1 en hm
  refine ⟨h1.1, h1.2, h.2.2.2.2.2 _ hr en hm, by rw [he, ← (h.at kx).1]; exact hm, ?_⟩
  have h2 : kx ∈ (rows (xrow ldp dp kx)).map key := List.mem_map.mpr ⟨en, hm, he⟩
  rw [h.2.2.2.2.1 _ hr] at h2
  exact (List.mem_filter.mp h2).1
theorem XR.nomem {U : Nat → Prop} (h : XR key ldp dp efi ela eco ene rows dep E U) {kx : Nat} (hno : ∀ en, en ∈ rows (xrow ldp dp kx) → key en ≠ kx) : kx ∉ E := by
  have hr : xrow ldp dp kx < 256 := xrow_lt h.2.1.1
  intro hm
  have h2 : kx ∈ (rows (xrow ldp dp kx)).map key := by
    rw [h.2.2.2.2.1 _ hr, (h.at kx).1]
    exact List.mem_filter.mpr ⟨hm, by simp⟩
  obtain ⟨en, h3, h4⟩ := List.mem_map.mp h2
  exact hno en h3 h4
theorem YR.mem {U : Nat → Prop} (h : YR key lev ptr lfi lla lco lne rows L U) {kx en : Nat} (hm : en ∈ rows (linOf lev ptr kx)) (he : key en = kx) : 1 ≤ en ∧ en ≤ 120 ∧ U en := by
  have hr : linOf lev ptr kx < 256 := by have := linOf_lt h.2.1.1 kx; have := h.2.1.2; omega
  have h1 := (h.1.1 _ hr).2.2.2.2.1 en hm
  exact ⟨h1.1, h1.2, h.2.2.2 _ hr en hm⟩
theorem YR.nomem {U : Nat → Prop} (h : YR key lev ptr lfi lla lco lne rows L U) {kx : Nat} (hno : ∀ en, en ∈ rows (linOf lev ptr kx) → key en ≠ kx) : kx ∉ L := by
  have hr : linOf lev ptr kx < 256 := by have := linOf_lt h.2.1.1 kx; have := h.2.1.2; omega
  intro hm
  have h2 : kx ∈ (rows (linOf lev ptr kx)).map key := by
    rw [h.2.2.1 _ hr]
    exact List.mem_filter.mpr ⟨hm, by simp⟩
  obtain ⟨en, h3, h4⟩ := List.mem_map.mp h2
  exact hno en h3 h4
theorem YR.inrow {U : Nat → Prop} (h : YR key lev ptr lfi lla lco lne rows L U) (hinj : ∀ e f, U e → U f → key e = key f → e = f) {en : Nat} (hu : U en) (hm : key en ∈ L) : en ∈ rows (linOf lev ptr (key en)) := by
  have hr : linOf lev ptr (key en) < 256 := by have := linOf_lt h.2.1.1 (key en); have := h.2.1.2; omega
  have h2 : key en ∈ (rows (linOf lev ptr (key en))).map key := by
    rw [h.2.2.1 _ hr]
    exact List.mem_filter.mpr ⟨hm, by simp⟩
  obtain ⟨e, h3, h4⟩ := List.mem_map.mp h2
  rw [hinj e en (h.2.2.2 _ hr e h3) hu h4] at h3
  exact h3
theorem YR.len {U : Nat → Prop} (h : YR key lev ptr lfi lla lco lne rows L U) {r : Nat} (hr : r < 256) : lco r = (lnB L lev ptr r).length ∧ lco r ≤ 120 := by
  unfold lnB
  rw [← h.2.2.1 r hr, List.length_map]
  exact ⟨(h.1.1 r hr).1, by rw [(h.1.1 r hr).1]; exact h.1.len hr⟩
theorem SO.get {en k : Nat} (h : SO key val ord tk) (hu : US ord tk en) (hk : key en = k) (v : Nat) : (k, v) ∈ stl key val ord tk ↔ v = val en := by
  rw [stl_mem]
  constructor
  · rintro ⟨i, hi, e⟩
    have h1 : key (ord i) = k := congrArg Prod.fst e
    have h2 : val (ord i) = v := congrArg Prod.snd e
    have := h.injU (ord i) en ⟨i, hi, rfl⟩ hu (h1.trans hk.symm)
    rw [← h2, this]
  · rintro rfl
    obtain ⟨i, hi, rfl⟩ := hu
    exact ⟨i, hi, by rw [hk]⟩
theorem CR.none (h : CR key val ord tk cp efi ela eco ene ldp dp lfi lla lco lne lev ptr llo lhi dep E L) {k : Nat} (hk : k ∉ E ∨ k ∉ L) (v : Nat) : (k, v) ∉ stl key val ord tk := by
  intro hm
  obtain ⟨i, hi, e⟩ := stl_mem.mp hm
  have h1 : key (ord i) = k := congrArg Prod.fst e
  have h2 := h.2.2.2.2.2 i hi
  rw [h1] at h2
  rcases hk with hk | hk
  · exact hk h2.1
  · exact hk h2.2
theorem getD_map {B : List Nat} {i : Nat} (h : i < B.length) : (B.map key).getD i 0 = key (B.getD i 0) := by
  rw [List.getD_eq_getElem?_getD, List.getD_eq_getElem?_getD, List.getElem?_map, List.getElem?_eq_getElem h]
  rfl
/-- what pagesRead found, in keys -/
theorem prP_of {R : List Nat} {k : Nat} {r : Int32} (h : (∃ i, i < R.length ∧ key (R.getD i 0) = k ∧ (∀ j, j < i → key (R.getD j 0) ≠ k) ∧ r = nI (1 + i / cp)) ∨ ((∀ j, j < R.length → key (R.getD j 0) ≠ k) ∧ r = nI (1 + (R.length - 1) / cp))) : prP (R.map key) cp k r := by
  unfold prP
  rw [List.length_map]
  rcases h with ⟨i, hi, h1, h2, h3⟩ | ⟨h1, h2⟩
  · exact Or.inl ⟨i, hi, by rw [getD_map hi]; exact h1, fun j hj => by rw [getD_map (by omega)]; exact h2 j hj, h3⟩
  · exact Or.inr ⟨fun j hj => by rw [getD_map hj]; exact h1 j hj, h2⟩
theorem XR.low {U : Nat → Prop} (h : XR key ldp dp efi ela eco ene rows dep E U) {r : Nat} (hr : r < 2 ^ dp) : (r % 2 ^ dep r = r ↔ r < 2 ^ dep r) ∧ eco r = if r < 2 ^ dep r then (clB E r (dep r)).length else 0 := by
  have hg := h.2.1.1
  have hr2 : r < 256 := Nat.lt_of_lt_of_le hr (p8 hg)
  have h1 : r % 2 ^ dep r = r ↔ r < 2 ^ dep r := ⟨fun e => by have q := Nat.mod_lt r (Nat.two_pow_pos (dep r)); omega, Nat.mod_eq_of_lt⟩
  refine ⟨h1, ?_⟩
  by_cases z : r < 2 ^ dep r
  · rw [if_pos z]
    have h2 := h.cnt hr2
    rw [h1.mpr z] at h2
    exact h2
  · rw [if_neg z, h.co hr2]
    have : E.filter (fun k => rowOf dep k == r) = [] := by
      rw [List.filter_eq_nil_iff]
      intro k _ q
      have q2 : rowOf dep k = r := by simpa using q
      unfold rowOf at q2
      have h3 := h.2.1.2.1 _ (mod_lt256 (hs k))
      have h4 := h.2.1.2.2 _ r (mod_lt256 (hs k)) hr2 (by rw [m256 _ (by omega), ← q2, Nat.mod_mod])
      apply z
      rw [h4, ← q2]
      exact Nat.mod_lt _ (Nat.two_pow_pos _)
    rw [this]; rfl
theorem XR.far {U : Nat → Prop} (h : XR key ldp dp efi ela eco ene rows dep E U) {r : Nat} (h1 : 2 ^ dp ≤ r) (h2 : r < 256) : ¬ r < 2 ^ dep r := by
  have := p2_le (h.2.1.2.1 r h2)
  omega
theorem XR.bkt {U : Nat → Prop} (h : XR key ldp dp efi ela eco ene rows dep E U) : so (fun q => if q % 2 ^ ldp q = q then 1 else 0) (2 ^ dp) = so (fun q => if q < 2 ^ dep q then 1 else 0) 256 := by
  refine so_ext (fun i hi => ?_) (p8 h.2.1.1) (fun i h1 h2 => if_neg (h.far h1 h2))
  rw [h.2.2.1 i hi]
  have := (h.low hi).1
  by_cases z : i < 2 ^ dep i
  · rw [if_pos z, if_pos (this.mpr z)]
  · rw [if_neg z, if_neg (fun y => z (this.mp y))]
theorem XR.ovf {U : Nat → Prop} (h : XR key ldp dp efi ela eco ene rows dep E U) : so (fun r => (eco r - 1) / cp) (2 ^ dp) = so (fun q => if q < 2 ^ dep q then ((clB E q (dep q)).length - 1) / cp else 0) 256 := by
  refine so_ext (fun i hi => ?_) (p8 h.2.1.1) (fun i h1 h2 => if_neg (h.far h1 h2))
  rw [(h.low hi).2]
  split
  · rfl
  · simp
theorem XR.bud {U : Nat → Prop} (h : XR key ldp dp efi ela eco ene rows dep E U) {x : Nat} (hx : x < 2 ^ dp) (h0 : 0 < dep x) : bdy ldp x = (x ^^^ 2 ^ (dep x - 1)) % 2 ^ dep x ∧ (ldp (bdy ldp x) = dep x ↔ dep (x ^^^ 2 ^ (dep x - 1)) = dep x) := by
  obtain ⟨hR, hX, hl, hbd, hf, hu⟩ := h
  have hg := hX.1
  have hx2 : x < 256 := Nat.lt_of_lt_of_le hx (p8 hg)
  have hb := hX.2.1 x hx2
  obtain ⟨c, hc⟩ : ∃ c, dep x = c + 1 := ⟨dep x - 1, by omega⟩
  have hbx : x ^^^ 2 ^ c < 256 := Nat.xor_lt_two_pow (n := 8) hx2 (Nat.pow_lt_pow_right (by decide) (by omega))
  have e2 : bdy ldp x = (x ^^^ 2 ^ c) % 2 ^ (c + 1) := by
    unfold bdy
    rw [hl x hx, hc, Nat.add_sub_cancel, Nat.xor_mod_two_pow, Nat.mod_eq_of_lt (a := 2 ^ c) (Nat.pow_lt_pow_right (by decide) (Nat.lt_succ_self c))]
  have e3 : (x ^^^ 2 ^ c) % 2 ^ (c + 1) < 2 ^ dp := Nat.lt_of_lt_of_le (Nat.mod_lt _ (Nat.two_pow_pos _)) (p2_le (by omega))
  have e4 : (x ^^^ 2 ^ c) % 2 ^ (c + 1) < 256 := m2 (by omega)
  rw [e2, hc, Nat.add_sub_cancel]
  refine ⟨rfl, ?_⟩
  rw [hl _ e3]
  constructor
  · intro w
    exact (hX.2.2 _ _ e4 hbx (by rw [w, Nat.mod_mod])).trans w
  · intro w
    exact (hX.2.2 _ _ hbx e4 (by rw [w, Nat.mod_mod])).trans w
end CM
