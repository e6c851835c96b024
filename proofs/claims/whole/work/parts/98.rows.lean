/-! rows are orders of the vertices -/
def stS {α : Type} (pk : Nat → α → Nat) (nx : Nat → α → α) (a0 : α) (k : Nat) : Nat × α := forN (fun _ q => (q.1 ||| 2 ^ pk q.1 q.2, nx q.1 q.2)) k (0, a0)
def rwS2 {α : Type} (pk : Nat → α → Nat) (nx : Nat → α → α) : Nat → (Nat × α × (Nat → Int32)) → (Nat × α × (Nat → Int32)) := fun k q => (q.1 ||| 2 ^ pk q.1 q.2.1, nx q.1 q.2.1, upd q.2.2 k (nI (pk q.1 q.2.1)))
/-- the vertex at place j -/
def rwV2 {α : Type} (pk : Nat → α → Nat) (nx : Nat → α → α) (a0 : α) (j : Nat) : Nat := pk (stS pk nx a0 j).1 (stS pk nx a0 j).2
theorem row_st {α : Type} {pk : Nat → α → Nat} {nx : Nat → α → α} {a0 : α} {g : Nat → Int32} : ∀ k, (forN (rwS2 pk nx) k (0, a0, g)).1 = (stS pk nx a0 k).1 ∧ (forN (rwS2 pk nx) k (0, a0, g)).2.1 = (stS pk nx a0 k).2 ∧ ∀ j, (forN (rwS2 pk nx) k (0, a0, g)).2.2 j = if j < k then nI (rwV2 pk nx a0 j) else g j := by
  intro k
  induction k with
  | zero => exact ⟨rfl, rfl, fun j => (if_neg (Nat.not_lt_zero _)).symm⟩
  | succ k ih =>
    obtain ⟨i1, i2, i3⟩ := ih
    generalize hq : forN (rwS2 pk nx) k (0, a0, g) = q at i1 i2 i3
    have e : forN (rwS2 pk nx) (k + 1) (0, a0, g) = rwS2 pk nx k q := by rw [← hq]; rfl
    have e2 : stS pk nx a0 (k + 1) = ((stS pk nx a0 k).1 ||| 2 ^ pk (stS pk nx a0 k).1 (stS pk nx a0 k).2, nx (stS pk nx a0 k).1 (stS pk nx a0 k).2) := rfl
    rw [e, e2]
    unfold rwS2
    refine ⟨by show q.1 ||| 2 ^ pk q.1 q.2.1 = _; rw [i1, i2], by show nx q.1 q.2.1 = _; rw [i1, i2], fun j => ?_⟩
    show upd q.2.2 k (nI (pk q.1 q.2.1)) j = _
    by_cases ej : j = k
    · rw [ej, pk_us, if_pos (by omega), i1, i2]; rfl
    · rw [pk_un ej, i3 j]
      by_cases c : j < k
      · rw [if_pos c, if_pos (by omega)]
      · rw [if_neg c, if_neg (by omega)]
theorem setR_s (r : Nat → Nat) (k : Nat) : setR r (k + 1) = setR r k ||| 2 ^ r k := rfl
theorem setR_t {r : Nat → Nat} {i : Nat} : ∀ k, (setR r k).testBit i = true ↔ ∃ j, j < k ∧ r j = i
  | 0 => by
    constructor
    · intro h; simp [setR, forN] at h
    · rintro ⟨j, hj, _⟩; exact absurd hj (Nat.not_lt_zero _)
  | k + 1 => by
    rw [setR_s, or_t, setR_t k, pow_t]
    constructor
    · rintro (⟨j, hj, h⟩ | h)
      · exact ⟨j, by omega, h⟩
      · exact ⟨k, by omega, h.symm⟩
    · rintro ⟨j, hj, h⟩
      by_cases e : j = k
      · right; rw [← h, e]
      · exact Or.inl ⟨j, by omega, h⟩
theorem st_set {α : Type} {pk : Nat → α → Nat} {nx : Nat → α → α} {a0 : α} : ∀ k, (stS pk nx a0 k).1 = setR (rwV2 pk nx a0) k
  | 0 => rfl
  | k + 1 => by
    rw [setR_s, ← st_set k]
    rfl
/-- an order of 0 .. n - 1 -/
def ORD (n : Nat) (r : Nat → Nat) : Prop := (∀ j, j < n → r j < n) ∧ ∀ i j, i < n → j < n → r i = r j → i = j
theorem ord_pop {n : Nat} {r : Nat → Nat} (hn : n ≤ 10) (h1 : ∀ j, j < n → r j < n) (h2 : ∀ k, k < n → (setR r k).testBit (r k) = false) : ∀ k, k ≤ n → setR r k < 2 ^ n ∧ pop (setR r k) = k
  | 0, _ => ⟨Nat.one_le_two_pow, by show pop 0 = 0; decide⟩
  | k + 1, hk => by
    have hp := pow10 hn
    obtain ⟨i1, i2⟩ := ord_pop hn h1 h2 k (by omega)
    have hr := h1 k (by omega)
    rw [setR_s]
    exact ⟨or_ltn i1 hr, by rw [pop_or (by omega) (by omega) (h2 k (by omega))]; omega⟩
theorem ord_of {n : Nat} {r : Nat → Nat} (h1 : ∀ j, j < n → r j < n) (h2 : ∀ k, k < n → (setR r k).testBit (r k) = false) : ORD n r := by
  refine ⟨h1, fun i j hi hj g => ?_⟩
  rcases Nat.lt_trichotomy i j with h | h | h
  · have := h2 j hj
    rw [(setR_t j).mpr ⟨i, h, g⟩] at this; cases this
  · exact h
  · have := h2 i hi
    rw [(setR_t i).mpr ⟨j, h, g.symm⟩] at this; cases this
theorem ord_no {n : Nat} {r : Nat → Nat} (h : ORD n r) : ∀ k, k < n → (setR r k).testBit (r k) = false := fun k hk => Bool.eq_false_iff.mpr (fun g => by
  obtain ⟨j, hj, e⟩ := (setR_t k).mp g
  have := h.2 j k (by omega) hk e
  omega)
/-- every vertex has its place -/
theorem ord_at {n : Nat} {r : Nat → Nat} (hn : n ≤ 10) (h : ORD n r) {v : Nat} (hv : v < n) : ∃ k, k < n ∧ r k = v ∧ ∀ j, j < k → r j ≠ v := by
  have hp := pow10 hn
  have hp1 : 1 ≤ 2 ^ n := Nat.one_le_two_pow
  obtain ⟨a, b⟩ := ord_pop hn h.1 (ord_no h) n (Nat.le_refl _)
  have hall : setR r n = 2 ^ n - 1 := by
    refine Classical.byContradiction (fun hne => ?_)
    have := pop_smono (a := setR r n) (b := 2 ^ n - 1) (by omega) (fun i hi => all_t.mpr (bit_ltn a hi)) hne
    rw [b, pop_all hn] at this
    omega
  have hb : (setR r n).testBit v = true := by rw [hall]; exact all_t.mpr hv
  obtain ⟨k, hk, e⟩ := (setR_t n).mp hb
  refine ⟨k, hk, e, fun j hj g => ?_⟩
  have := h.2 j k (by omega) hk (g.trans e.symm)
  omega
/-- what is seen in an order is the same on both sides -/
theorem seen_eq {n : Nat} {nb : Nat → Nat} (G : GR n nb) {r : Nat → Nat} (h : ORD n r) {k v : Nat} (hk : k < n) (hv : r k = v) : pastN nb (setR r k) v = seesN n nb (setR r k) v := by
  have := (ord_pop G.1 h.1 (ord_no h) k (by omega)).1
  rw [← hv]
  exact (sees_past G this (h.1 k hk) (ord_no h k hk)).symm
