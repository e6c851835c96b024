/-! the totals that only count -/
theorem forN_and_t {p : Nat → Bool} : ∀ n b, forN (fun k b => b && p k) n b = true ↔ b = true ∧ ∀ k, k < n → p k = true := by
  intro n b
  induction n with
  | zero => simp [forN]
  | succ n ih =>
    show (forN (fun k b => b && p k) n b && p n) = true ↔ _
    rw [Bool.and_eq_true, ih]
    constructor
    · rintro ⟨⟨h1, h2⟩, h3⟩
      refine ⟨h1, fun k hk => ?_⟩
      by_cases e : k = n
      · rw [e]; exact h3
      · exact h2 k (by omega)
    · rintro ⟨h1, h2⟩
      exact ⟨⟨h1, fun k hk => h2 k (by omega)⟩, h2 n (by omega)⟩
theorem forN_congr2 {α : Type} {f g : Nat → α → α} : ∀ n a, (∀ k, k < n → ∀ x, f k x = g k x) → forN f n a = forN g n a
  | 0, a, _ => rfl
  | n + 1, a, h => by
    show f n (forN f n a) = g n (forN g n a)
    rw [forN_congr2 n a (fun k hk x => h k (by omega) x), h n (by omega)]
/-- the first turn of a loop taken off -/
theorem forN_first {α : Type} {f : Nat → α → α} : ∀ n a, forN f (n + 1) a = forN (fun k => f (k + 1)) n (f 0 a)
  | 0, a => rfl
  | n + 1, a => by
    show f (n + 1) (forN f (n + 1) a) = f (n + 1) (forN (fun k => f (k + 1)) n (f 0 a))
    rw [forN_first n a]
theorem bool_eq {a b : Bool} (h : a = true ↔ b = true) : a = b := by
  cases a <;> cases b <;> simp_all
theorem Sm_zero {f : Nat → Nat} : ∀ n, Sm f n = 0 → ∀ k, k < n → f k = 0
  | 0, _, k, hk => absurd hk (Nat.not_lt_zero _)
  | n + 1, h, k, hk => by
    rw [Sm_s] at h
    by_cases e : k = n
    · rw [e]; omega
    · exact Sm_zero n (by omega) k (by omega)
section GG
variable {n : Nat} {nb : Nat → Nat}
theorem apart_t {s : Nat} : apartN n nb s = true ↔ ∀ k, k < n → s.testBit k = true → nb k &&& s = 0 := by
  unfold apartN
  rw [forN_and_t]
  constructor
  · rintro ⟨_, h⟩ k hk hb
    have := h k hk
    rw [hb] at this
    simpa using this
  · intro h
    refine ⟨rfl, fun k hk => ?_⟩
    cases hb : s.testBit k with
    | false => rfl
    | true => simp [h k hk hb]
theorem apart_in (G : GR n nb) {s : Nat} (hs : s < 2 ^ n) : apartN n nb s = true ↔ inN nb s = 0 := by
  have hn := G.1
  have hp := pow10 hn
  have hQ := in_Q G s (by omega)
  rw [apart_t]
  constructor
  · intro h
    have : Qf nb s s = 0 := by
      unfold Qf
      rw [Sm_congr 10 (g := fun _ => 0) (fun k hk => ?_), Sm_0]
      cases hb : s.testBit k with
      | false => rw [ch_f hb, Nat.zero_mul]
      | true =>
        rw [← pop_and, h k (bit_ltn hs hb) hb, show pop 0 = 0 by decide, Nat.mul_zero]
    omega
  · intro h k hk hb
    have h1 : Qf nb s s = 0 := by omega
    have h2 := Sm_zero 10 h1 k (by omega)
    rw [ch_t hb, Nat.one_mul, ← pop_and] at h2
    refine Classical.byContradiction (fun h3 => ?_)
    have h4 : pop 0 < pop (nb k &&& s) := pop_smono (and_lt_r (by omega)) (subS_0 _) (fun e => h3 e.symm)
    omega
theorem apartC_eq (G : GR n nb) : apartC n nb = apartT n nb := by
  unfold apartC apartT
  refine forN_congr2 _ _ (fun k hk x => ?_)
  congr 1
  have h := apart_in G hk
  by_cases e : inN nb k = 0
  · rw [if_pos e, if_pos (h.mpr e)]
  · rw [if_neg e, if_neg (fun g => e (h.mp g))]
theorem rc_reach (G : GR n nb) {s : Nat} (hs : s < 2 ^ n) : reachN n nb s = rcN nb s := by
  have hp := pow10 G.1
  refine eq_of_bits (fun i => ?_)
  rw [reach_t, rc_t s (by omega)]
  constructor
  · rintro ⟨k, _, h2, h3⟩; exact ⟨k, h2, h3⟩
  · rintro ⟨k, h2, h3⟩; exact ⟨k, bit_ltn hs h2, h2, h3⟩
theorem near_eq (G : GR n nb) {s : Nat} (hs : s < 2 ^ n) : nearAllN n nb s = decide (s ||| rcN nb s = 2 ^ n - 1) := by
  have hp := pow10 G.1
  unfold nearAllN
  rw [rc_reach G hs]
  congr 2
  refine eq_of_bits (fun i => ?_)
  rw [or_t, or_t, sd_t (rc_lt (gr_1024 G) s (by omega))]
  constructor
  · rintro (h | h)
    · exact Or.inl h
    · exact Or.inr h.1
  · rintro (h | h)
    · exact Or.inl h
    · cases hb : s.testBit i with
      | true => exact Or.inl rfl
      | false => exact Or.inr ⟨h, rfl⟩
theorem nearC_eq (G : GR n nb) : nearC n nb = nearT n nb := by
  unfold nearC nearT
  refine forN_congr2 _ _ (fun k hk x => ?_)
  rw [near_eq G hk]
  congr 1
  by_cases e : k ||| rcN nb k = 2 ^ n - 1
  · rw [if_pos e, if_pos (decide_eq_true e)]
  · rw [if_neg e, if_neg (by simp [e])]
theorem whole_pc (G : GR n nb) {s : Nat} (hs : s < 2 ^ n) (h0 : ¬ s = 0) : wholeN n nb s = true ↔ pcN nb s = s := by
  unfold wholeN
  rw [pc_hang G.1 hs h0]
  simp [h0]
theorem wholeC_eq (G : GR n nb) : wholeC n nb = wholeT n nb := by
  have hp1 : 1 ≤ 2 ^ n := Nat.one_le_two_pow
  unfold wholeC wholeT
  obtain ⟨N, hN⟩ : ∃ N, 2 ^ n = N + 1 := ⟨2 ^ n - 1, by omega⟩
  rw [hN, forN_first]
  have e0 : (0 : Int64) + (if ¬ (0 : Nat) = 0 ∧ wholeN n nb 0 = true then 1 else 0) = 0 := by
    rw [if_neg (fun h => h.1 rfl)]; rfl
  rw [e0]
  refine forN_congr2 _ _ (fun k hk x => ?_)
  have hk1 : k + 1 < 2 ^ n := by omega
  have h := whole_pc G hk1 (by omega)
  congr 1
  by_cases e : pcN nb (k + 1) = k + 1
  · rw [if_pos e, if_pos ⟨by omega, h.mpr e⟩]
  · rw [if_neg e, if_neg (fun g => e (h.mp g.2))]
theorem sd_all {k : Nat} (hn : n ≤ 10) (hk : k < 2 ^ n) : sd (2 ^ n - 1) k = 2 ^ n - 1 - k := by
  have h : ∀ n, n < 11 → ∀ k, k < 2 ^ n → sd (2 ^ n - 1) k = 2 ^ n - 1 - k := by decide +kernel
  exact h n (by omega) k hk
theorem shl_neg {e : Nat} (he : e ≤ 50) : (-1 : Int64) <<< ((nI e).toInt64 &&& 63) = - (1 <<< ((nI e).toInt64 &&& 63)) := by
  have h : ∀ e, e < 51 → (-1 : Int64) <<< ((nI e).toInt64 &&& 63) = - (1 <<< ((nI e).toInt64 &&& 63)) := by decide +kernel
  exact h e (by omega)
theorem coverC_eq (G : GR n nb) : coverC n nb = coverT n nb := by
  have hn := G.1
  have hp := pow10 hn
  have hp1 : 1 ≤ 2 ^ n := Nat.one_le_two_pow
  have h1 : coverC n nb = Sg (fun k => if pop (sd (2 ^ n - 1) k) &&& 1 = 0 then (1 : Int64) <<< ((nI (inN nb k)).toInt64 &&& 63) else - (1 <<< ((nI (inN nb k)).toInt64 &&& 63))) (2 ^ n) := rfl
  have h2 : coverT n nb = Sg (fun k => ((if pop k &&& 1 = 0 then (1 : Int64) else (-1)) <<< ((nI (edgesN n nb (sd (2 ^ n - 1) k))).toInt64 &&& 63))) (2 ^ n) := rfl
  rw [h1, h2, ← Sg_rev (f := fun k => if pop (sd (2 ^ n - 1) k) &&& 1 = 0 then (1 : Int64) <<< ((nI (inN nb k)).toInt64 &&& 63) else - (1 <<< ((nI (inN nb k)).toInt64 &&& 63)))]
  refine Sg_congr _ (fun k hk => ?_)
  have e1 : sd (2 ^ n - 1) (2 ^ n - 1 - k) = k := by rw [sd_all hn (by omega)]; omega
  have e2 : sd (2 ^ n - 1) k = 2 ^ n - 1 - k := sd_all hn hk
  have hle := edgesN_le (nb := nb) hn (s := 2 ^ n - 1 - k) (by omega)
  have he := edges_in G (s := 2 ^ n - 1 - k) (by omega)
  rw [e1, e2, he]
  by_cases e : pop k &&& 1 = 0
  · rw [if_pos e, if_pos e]
  · rw [if_neg e, if_neg e, shl_neg (by omega)]
end GG
