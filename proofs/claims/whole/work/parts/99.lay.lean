/-! the least orders of kinds 0, 1, 3, 4 -/
section GG
variable {n : Nat} {nb : Nat → Nat}
def lyN (n : Nat) (nb : Nat → Nat) (kind : Nat) : Nat → Nat → Nat := fun s left => if kind = 4 then left - costN n nb kind s (pickV n nb kind s left) else left
/-- the vertex at place j of the least order -/
def lrow (n : Nat) (nb : Nat → Nat) (kind j : Nat) : Nat := rwV2 (pickV n nb kind) (lyN n nb kind) (bbN n nb kind 0) j
theorem lay_step {kind s left : Nat} (hn : n ≤ 10) (hs : s < 2 ^ n) (hb : bbN n nb kind s ≤ left) (hl : left ≤ 100) (hne : s ≠ 2 ^ n - 1) : pickV n nb kind s left < n ∧ s.testBit (pickV n nb kind s left) = false ∧ bbN n nb kind (s ||| 2 ^ pickV n nb kind s left) ≤ lyN n nb kind s left ∧ lyN n nb kind s left ≤ 100 := by
  obtain ⟨v1, v2, v3⟩ := next_ex hs hne hb (by omega)
  obtain ⟨w1, w2, w3, w4⟩ := firstV_ok (p := nextN n nb kind s left) n 0 v1 (Nat.zero_le _) (by omega) v3
  change pickV n nb kind s left < 0 + n at w1
  change nextN n nb kind s left (pickV n nb kind s left) = true at w2
  generalize hP : pickV n nb kind s left = P at w1 w2
  have hl2 : lyN n nb kind s left = if kind = 4 then left - costN n nb kind s P else left := by unfold lyN; rw [hP]
  rw [hl2]
  unfold nextN at w2
  rw [Bool.and_eq_true] at w2
  have hb0 : s.testBit P = false := by
    have := w2.1
    revert this
    cases s.testBit P <;> simp
  refine ⟨by omega, hb0, ?_⟩
  have h2 := w2.2
  by_cases hk : kind = 4
  · rw [if_pos hk] at h2 ⊢
    have := of_decide_eq_true h2
    constructor <;> omega
  · rw [if_neg hk] at h2 ⊢
    rw [Bool.and_eq_true, decide_eq_true_eq, decide_eq_true_eq] at h2
    exact ⟨h2.2, hl⟩
theorem lay_inv (hn : n ≤ 10) (hb : ∀ v, v < 10 → nb v < 1024) {kind : Nat} : ∀ k, k ≤ n → (stS (pickV n nb kind) (lyN n nb kind) (bbN n nb kind 0) k).1 < 2 ^ n ∧ bbN n nb kind (stS (pickV n nb kind) (lyN n nb kind) (bbN n nb kind 0) k).1 ≤ (stS (pickV n nb kind) (lyN n nb kind) (bbN n nb kind 0) k).2 ∧ (stS (pickV n nb kind) (lyN n nb kind) (bbN n nb kind 0) k).2 ≤ 100 ∧ pop (stS (pickV n nb kind) (lyN n nb kind) (bbN n nb kind 0) k).1 = k := by
  have hp := pow10 hn
  have hp1 : 1 ≤ 2 ^ n := Nat.one_le_two_pow
  intro k
  induction k with
  | zero => exact fun _ => ⟨by show 0 < 2 ^ n; omega, Nat.le_refl _, bbN_lt hn hb (by omega), by show pop 0 = 0; decide⟩
  | succ k ih =>
    intro hk
    obtain ⟨i1, i2, i3, i4⟩ := ih (by omega)
    generalize hq : stS (pickV n nb kind) (lyN n nb kind) (bbN n nb kind 0) k = q at i1 i2 i3 i4
    have e : stS (pickV n nb kind) (lyN n nb kind) (bbN n nb kind 0) (k + 1) = (q.1 ||| 2 ^ pickV n nb kind q.1 q.2, lyN n nb kind q.1 q.2) := by rw [← hq]; rfl
    have hne : q.1 ≠ 2 ^ n - 1 := fun g => by rw [g, pop_all hn] at i4; omega
    obtain ⟨s1, s2, s3, s4⟩ := lay_step hn i1 i2 i3 hne
    rw [e]
    exact ⟨or_ltn i1 s1, s3, s4, by show pop (q.1 ||| 2 ^ pickV n nb kind q.1 q.2) = k + 1; rw [pop_or (by omega) (by omega) s2, i4]⟩
theorem lay_ord (hn : n ≤ 10) (hb : ∀ v, v < 10 → nb v < 1024) {kind : Nat} : ORD n (lrow n nb kind) := by
  have hp := pow10 hn
  have key : ∀ k, k < n → lrow n nb kind k < n ∧ (setR (lrow n nb kind) k).testBit (lrow n nb kind k) = false := by
    intro k hk
    obtain ⟨i1, i2, i3, i4⟩ := lay_inv hn hb (kind := kind) k (by omega)
    have hne : (stS (pickV n nb kind) (lyN n nb kind) (bbN n nb kind 0) k).1 ≠ 2 ^ n - 1 := fun g => by rw [g, pop_all hn] at i4; omega
    obtain ⟨s1, s2, s3, s4⟩ := lay_step hn i1 i2 i3 hne
    refine ⟨s1, ?_⟩
    have hs := st_set (pk := pickV n nb kind) (nx := lyN n nb kind) (a0 := bbN n nb kind 0) k
    have s2' : (stS (pickV n nb kind) (lyN n nb kind) (bbN n nb kind 0) k).1.testBit (lrow n nb kind k) = false := s2
    rw [hs] at s2'
    exact s2'
  exact ord_of (fun j hj => (key j hj).1) (fun k hk => (key k hk).2)
theorem lay_row {kind : Nat} {g : Nat → Int32} {j : Nat} (hj : j < n) : (layN n nb kind g).2.2 j = nI (lrow n nb kind j) := by
  have h := (row_st (pk := pickV n nb kind) (nx := lyN n nb kind) (a0 := bbN n nb kind 0) (g := g) n).2.2 j
  rw [if_pos hj] at h
  exact h
end GG
