/-! sets and what hangs together -/
theorem bit_lt10 {s i : Nat} (hs : s < 1024) (h : s.testBit i = true) : i < 10 := by
  rcases Nat.lt_or_ge i 10 with g | g
  · exact g
  · have h1 : s.testBit i = false := Nat.testBit_lt_two_pow (Nat.lt_of_lt_of_le hs (by
      have : 2 ^ 10 ≤ 2 ^ i := Nat.pow_le_pow_right (by decide) g
      omega))
    rw [h1] at h; cases h
theorem bit_ltn {n s i : Nat} (hs : s < 2 ^ n) (h : s.testBit i = true) : i < n := by
  rcases Nat.lt_or_ge i n with g | g
  · exact g
  · have h1 : s.testBit i = false := Nat.testBit_lt_two_pow (Nat.lt_of_lt_of_le hs (Nat.pow_le_pow_right (by decide) g))
    rw [h1] at h; cases h
theorem eq_of_bits {a b : Nat} (h : ∀ i, a.testBit i = true ↔ b.testBit i = true) : a = b := by
  apply Nat.eq_of_testBit_eq
  intro i
  have := h i
  cases h1 : a.testBit i <;> cases h2 : b.testBit i <;> simp_all
theorem lowrest : ∀ s, s < 1024 → s ≠ 0 → s &&& (s - 1) = sd s (2 ^ low s) := by decide +kernel
theorem sd_t {a b i : Nat} (ha : a < 1024) : (sd a b).testBit i = true ↔ a.testBit i = true ∧ b.testBit i = false := by
  rw [sd_bit _ _ _ ha]
  cases a.testBit i <;> cases b.testBit i <;> simp
theorem or_t {a b i : Nat} : (a ||| b).testBit i = true ↔ a.testBit i = true ∨ b.testBit i = true := by
  rw [Nat.testBit_or]; cases a.testBit i <;> cases b.testBit i <;> simp
theorem and_t {a b i : Nat} : (a &&& b).testBit i = true ↔ a.testBit i = true ∧ b.testBit i = true := by
  rw [Nat.testBit_and]; cases a.testBit i <;> cases b.testBit i <;> simp
theorem pow_t {k i : Nat} : (2 ^ k).testBit i = true ↔ i = k := by
  rw [Nat.testBit_two_pow]
  constructor
  · intro h; exact (of_decide_eq_true h).symm
  · intro h; subst h; simp
theorem all_t {n i : Nat} : (2 ^ n - 1).testBit i = true ↔ i < n := by
  rw [Nat.testBit_two_pow_sub_one]; simp
theorem lowrest_t {s i : Nat} (hs : s < 1024) (h0 : s ≠ 0) : s.testBit i = true ↔ i = low s ∨ (s &&& (s - 1)).testBit i = true := by
  rw [lowrest s hs h0, sd_t hs]
  constructor
  · intro h
    by_cases e : i = low s
    · exact Or.inl e
    · refine Or.inr ⟨h, ?_⟩
      cases g : (2 ^ low s).testBit i with
      | false => rfl
      | true => exact absurd (pow_t.mp g) e
  · rintro (h | h)
    · rw [h]; exact low_bit hs h0
    · exact h.1
theorem rc_t {nb : Nat → Nat} {i : Nat} : ∀ s, s < 1024 → ((rcN nb s).testBit i = true ↔ ∃ k, s.testBit k = true ∧ (nb k).testBit i = true) := by
  intro s
  refine wh_ind (P := fun s => s < 1024 → ((rcN nb s).testBit i = true ↔ ∃ k, s.testBit k = true ∧ (nb k).testBit i = true)) (fun s => s) (fun s ih hs => ?_) s
  by_cases h0 : s = 0
  · subst h0
    unfold rcN; rw [lowN_0]
    simp
  · rw [rc_s hs h0, or_t]
    have hl : s &&& (s - 1) ≤ s - 1 := Nat.and_le_right
    rw [ih (s &&& (s - 1)) (by omega) (by omega)]
    constructor
    · rintro (⟨k, h1, h2⟩ | h)
      · exact ⟨k, (lowrest_t hs h0).mpr (Or.inr h1), h2⟩
      · exact ⟨low s, low_bit hs h0, h⟩
    · rintro ⟨k, h1, h2⟩
      rcases (lowrest_t hs h0).mp h1 with e | e
      · right; rw [← e]; exact h2
      · exact Or.inl ⟨k, e, h2⟩
theorem forN_or_t {p : Nat → Bool} {f : Nat → Nat} {i : Nat} : ∀ n a, (forN (fun k x => if p k then x ||| f k else x) n a).testBit i = true ↔ a.testBit i = true ∨ ∃ k, k < n ∧ p k = true ∧ (f k).testBit i = true := by
  intro n a
  induction n with
  | zero => simp [forN]
  | succ n ih =>
    show Nat.testBit (if p n = true then _ else _) i = true ↔ _
    cases hp : p n with
    | true =>
      rw [if_pos rfl, or_t, ih]
      constructor
      · rintro ((h | ⟨k, h1, h2⟩) | h)
        · exact Or.inl h
        · exact Or.inr ⟨k, by omega, h2⟩
        · exact Or.inr ⟨n, by omega, hp, h⟩
      · rintro (h | ⟨k, h1, h2, h3⟩)
        · exact Or.inl (Or.inl h)
        · by_cases e : k = n
          · subst e; exact Or.inr h3
          · exact Or.inl (Or.inr ⟨k, by omega, h2, h3⟩)
    | false =>
      rw [if_neg (by decide), ih]
      constructor
      · rintro (h | ⟨k, h1, h2⟩)
        · exact Or.inl h
        · exact Or.inr ⟨k, by omega, h2⟩
      · rintro (h | ⟨k, h1, h2, h3⟩)
        · exact Or.inl h
        · by_cases e : k = n
          · subst e; rw [hp] at h2; cases h2
          · exact Or.inr ⟨k, by omega, h2, h3⟩
theorem reach_t {n : Nat} {nb : Nat → Nat} {s i : Nat} : (reachN n nb s).testBit i = true ↔ ∃ k, k < n ∧ s.testBit k = true ∧ (nb k).testBit i = true := by
  unfold reachN
  rw [forN_or_t]
  simp
theorem hstep_t {n : Nat} {nb : Nat → Nat} {s g i : Nat} : (hstep n nb s g).testBit i = true ↔ g.testBit i = true ∨ ∃ k, k < n ∧ g.testBit k = true ∧ (nb k).testBit i = true ∧ s.testBit i = true := by
  unfold hstep
  rw [forN_or_t]
  simp only [and_t]
theorem hang_closed {n : Nat} {nb : Nat → Nat} {v s : Nat} (hv : v < 10) (hs : s < 1024) {k i : Nat} (hk : k < n) (h : (hangN n nb v s).testBit k = true) (hi : (nb k).testBit i = true) (hsi : s.testBit i = true) : (hangN n nb v s).testBit i = true := by
  have he : hstep n nb s (hangN n nb v s) = hangN n nb v s := hang_end hs (pow_lt hv)
  rw [← he]
  exact hstep_t.mpr (Or.inr ⟨k, hk, h, hi, hsi⟩)
theorem hang_min {n : Nat} {nb : Nat → Nat} {v s : Nat} {C : Nat → Prop} (hv : C v) (hc : ∀ k i, k < n → C k → (nb k).testBit i = true → s.testBit i = true → C i) : ∀ i, (hangN n nb v s).testBit i = true → C i := by
  unfold hangN
  suffices h : ∀ j i, (itN (hstep n nb s) j (2 ^ v)).testBit i = true → C i from h 1024
  intro j
  induction j with
  | zero => intro i hi; rw [pow_t.mp hi]; exact hv
  | succ j ih =>
    intro i hi
    rcases hstep_t.mp hi with h | ⟨k, h1, h2, h3, h4⟩
    · exact ih i h
    · exact hc k i h1 (ih k h2) h3 h4
/-! the class's pieces -/
theorem pop_sum (s : Nat) : pop s = forN (fun k m => m + (s.testBit k).toNat) 10 0 := rfl
theorem sum_le {f g : Nat → Nat} : ∀ n, (∀ k, k < n → f k ≤ g k) → forN (fun k m => m + f k) n 0 ≤ forN (fun k m => m + g k) n 0
  | 0, _ => Nat.le_refl _
  | n + 1, h => Nat.add_le_add (sum_le n (fun k hk => h k (by omega))) (h n (by omega))
theorem sum_lt {f g : Nat → Nat} : ∀ n, (∀ k, k < n → f k ≤ g k) → (∃ k, k < n ∧ f k < g k) → forN (fun k m => m + f k) n 0 < forN (fun k m => m + g k) n 0
  | 0, _, ⟨k, h, _⟩ => absurd h (Nat.not_lt_zero _)
  | n + 1, h, ⟨k, hk, hlt⟩ => by
    by_cases e : k = n
    · subst e
      exact Nat.add_lt_add_of_le_of_lt (sum_le k (fun j hj => h j (by omega))) hlt
    · exact Nat.add_lt_add_of_lt_of_le (sum_lt n (fun j hj => h j (by omega)) ⟨k, by omega, hlt⟩) (h n (by omega))
theorem pop_mono {a b : Nat} (h : subS a b) : pop a ≤ pop b := by
  refine sum_le 10 (fun k _ => ?_)
  cases h1 : a.testBit k with
  | false => simp
  | true => rw [h k h1]; exact Nat.le_refl _
theorem pop_smono {a b : Nat} (hb : b < 1024) (h : subS a b) (hne : a ≠ b) : pop a < pop b := by
  refine sum_lt 10 (fun k _ => ?_) ?_
  · cases h1 : a.testBit k with
    | false => simp
    | true => rw [h k h1]; exact Nat.le_refl _
  · refine Classical.byContradiction (fun hno => hne (eq_of_bits (fun i => ⟨h i, fun hi => ?_⟩)))
    refine Classical.byContradiction (fun ha => hno ⟨i, bit_lt10 hb hi, ?_⟩)
    rw [Bool.eq_false_iff.mpr ha, hi]; decide
theorem sp_end {g : Nat → Nat} {s : Nat} (hs : s < 1024) (h0 : s ≠ 0) : spS g s (spN g s) = spN g s := by
  unfold spN
  have hlt : ∀ k, itN (spS g s) k (2 ^ low s) < 1024 := itN_lt (fun x hx => or_lt hx (and_lt_r hs)) (pow_lt (low_lt hs h0))
  have h : ∀ k, spS g s (itN (spS g s) k (2 ^ low s)) = itN (spS g s) k (2 ^ low s) ∨ k + 1 ≤ pop (itN (spS g s) k (2 ^ low s)) := by
    intro k
    induction k with
    | zero =>
      refine Or.inr ?_
      have : pop 0 < pop (2 ^ low s) := pop_smono (pow_lt (low_lt hs h0)) (fun i hi => by simp at hi) (by
        have : 0 < 2 ^ low s := Nat.two_pow_pos _
        omega)
      exact Nat.lt_of_le_of_lt (Nat.zero_le _) this
    | succ k ih =>
      rcases ih with h | h
      · refine Or.inl ?_
        show spS g s (spS g s _) = spS g s _
        rw [h, h]
      · by_cases e : spS g s (itN (spS g s) k (2 ^ low s)) = itN (spS g s) k (2 ^ low s)
        · refine Or.inl ?_
          show spS g s (spS g s _) = spS g s _
          rw [e, e]
        · refine Or.inr ?_
          have := pop_smono (a := itN (spS g s) k (2 ^ low s)) (b := spS g s (itN (spS g s) k (2 ^ low s))) (hlt (k + 1)) (fun i hi => or_t.mpr (Or.inl hi)) (fun h => e h.symm)
          show k + 1 + 1 ≤ pop (spS g s _)
          omega
  rcases h 10 with h | h
  · exact h
  · have := pop_le (hlt 10)
    omega
theorem sp_min {g : Nat → Nat} {s : Nat} {C : Nat → Prop} (hl : C (low s)) (hc : ∀ h, (∀ i, h.testBit i = true → C i) → ∀ i, (g h).testBit i = true → s.testBit i = true → C i) : ∀ i, (spN g s).testBit i = true → C i := by
  unfold spN
  suffices h : ∀ j i, (itN (spS g s) j (2 ^ low s)).testBit i = true → C i from h 10
  intro j
  induction j with
  | zero => intro i hi; rw [pow_t.mp hi]; exact hl
  | succ j ih =>
    intro i hi
    rcases or_t.mp hi with h | h
    · exact ih i h
    · exact hc _ ih i (and_t.mp h).1 (and_t.mp h).2
theorem sp_low2 {g : Nat → Nat} {s : Nat} : (spN g s).testBit (low s) = true := by
  unfold spN
  suffices h : ∀ j, (itN (spS g s) j (2 ^ low s)).testBit (low s) = true from h 10
  intro j
  induction j with
  | zero => exact pow_t.mpr rfl
  | succ j ih => exact or_t.mpr (Or.inl ih)
theorem sp_lt {g : Nat → Nat} {s : Nat} (hs : s < 1024) (h0 : s ≠ 0) : spN g s < 1024 := itN_lt (fun x hx => or_lt hx (and_lt_r hs)) (pow_lt (low_lt hs h0)) 10
theorem sp_sub2 {g : Nat → Nat} {s : Nat} (hs : s < 1024) (h0 : s ≠ 0) : subS (spN g s) s := sp_min (C := fun i => s.testBit i = true) (low_bit hs h0) (fun _ _ i _ h => h)
theorem hang_sub2 {n : Nat} {nb : Nat → Nat} {v s : Nat} (hv : s.testBit v = true) : subS (hangN n nb v s) s := hang_sub hv
/-- the class's piece of a set is what hangs together with its lowest vertex -/
theorem pc_hang {n : Nat} {nb : Nat → Nat} {s : Nat} (hn : n ≤ 10) (hs : s < 2 ^ n) (h0 : s ≠ 0) : pcN nb s = hangN n nb (low s) s := by
  have hp := pow10 hn
  unfold pcN
  rw [if_neg h0]
  have hl := low_lt (show s < 1024 by omega) h0
  have hspl := sp_lt (g := rcN nb) (show s < 1024 by omega) h0
  refine eq_of_bits (fun i => ⟨?_, ?_⟩)
  · refine sp_min (C := fun i => (hangN n nb (low s) s).testBit i = true) (hang_self n nb (low s) s) (fun h hC i hi hsi => ?_) i
    by_cases hh : h < 1024
    · obtain ⟨k, h1, h2⟩ := (rc_t h hh).mp hi
      have hk := hC k h1
      exact hang_closed hl (by omega) (bit_ltn hs (hang_sub2 (low_bit (by omega) h0) k hk)) hk h2 hsi
    · exfalso
      -- a set all of whose bits lie in hang is small
      have : h < 2 ^ 10 := Nat.lt_pow_two_of_testBit h (fun j hj => by
        cases hb : h.testBit j with
        | false => rfl
        | true =>
          have h5 := bit_ltn hs (hang_sub2 (low_bit (show s < 1024 by omega) h0) j (hC j hb))
          omega)
      omega
  · refine hang_min (C := fun i => (spN (rcN nb) s).testBit i = true) sp_low2 (fun k i hk hC hi hsi => ?_) i
    have he := sp_end (g := rcN nb) (show s < 1024 by omega) h0
    rw [← he]
    exact or_t.mpr (Or.inr (and_t.mpr ⟨(rc_t _ hspl).mpr ⟨k, hC, hi⟩, hsi⟩))
