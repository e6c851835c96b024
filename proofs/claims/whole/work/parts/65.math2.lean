/-! a graph without loops, its edges both ways -/
def GR (n : Nat) (nb : Nat → Nat) : Prop := n ≤ 10 ∧ (∀ v, v < 10 → nb v < 2 ^ n) ∧ (∀ v, n ≤ v → v < 10 → nb v = 0) ∧ (∀ u v, u < n → (nb u).testBit v = true → (nb v).testBit u = true) ∧ ∀ v, v < n → (nb v).testBit v = false
section GG
variable {n : Nat} {nb : Nat → Nat}
theorem gr_n (G : GR n nb) : n ≤ 10 := G.1
theorem gr_lt (G : GR n nb) {u v : Nat} (hu : u < n) (h : (nb u).testBit v = true) : v < n := bit_ltn (G.2.1 u (by have := G.1; omega)) h
theorem gr_sym (G : GR n nb) {u v : Nat} (hu : u < n) (h : (nb u).testBit v = true) : (nb v).testBit u = true := G.2.2.2.1 u v hu h
theorem gr_1024 (G : GR n nb) : ∀ v, v < 10 → nb v < 1024 := fun v hv => Nat.lt_of_lt_of_le (G.2.1 v hv) (pow10 G.1)
theorem hang_in (G : GR n nb) {u v s : Nat} (hv : v < n) (hs : s < 2 ^ n) (h : (hangN n nb v s).testBit u = true) : subS (hangN n nb u s) (hangN n nb v s) := by
  have hp := pow10 G.1
  have hn := G.1
  exact hang_min (C := fun i => (hangN n nb v s).testBit i = true) h (fun k i hk hC hi hsi => hang_closed (by omega) (by omega) hk hC hi hsi)
theorem hang_sym (G : GR n nb) {u v s : Nat} (hs : s < 2 ^ n) (hv : s.testBit v = true) (h : (hangN n nb v s).testBit u = true) : s.testBit u = true ∧ (hangN n nb u s).testBit v = true := by
  have hp := pow10 G.1
  have hn := G.1
  refine hang_min (C := fun i => s.testBit i = true ∧ (hangN n nb i s).testBit v = true) ⟨hv, hang_self n nb v s⟩ (fun k i hk hC hi hsi => ⟨hsi, ?_⟩) u h
  have hin := gr_lt G hk hi
  have h1 : (hangN n nb i s).testBit k = true := hang_closed (by omega) (by omega) hin (hang_self n nb i s) (gr_sym G hk hi) hC.1
  exact hang_in G hin hs h1 v hC.2
theorem hang_eq (G : GR n nb) {u v s : Nat} (hs : s < 2 ^ n) (hv : s.testBit v = true) (h : (hangN n nb v s).testBit u = true) : hangN n nb u s = hangN n nb v s := by
  obtain ⟨h1, h2⟩ := hang_sym G hs hv h
  exact eq_of_bits (fun i => ⟨hang_in G (bit_ltn hs hv) hs h i, hang_in G (bit_ltn hs h1) hs h2 i⟩)
/-- t is a union of parts of s -/
def CLs (nb : Nat → Nat) (t s : Nat) : Prop := subS t s ∧ ∀ i k, t.testBit i = true → s.testBit k = true → (nb i).testBit k = true → t.testBit k = true
theorem CLs_self (s : Nat) : CLs nb s s := ⟨fun _ h => h, fun _ _ _ h _ => h⟩
theorem hang_local (G : GR n nb) {v s t : Nat} (hs : s < 2 ^ n) (hc : CLs nb t s) (hv : t.testBit v = true) : hangN n nb v t = hangN n nb v s := by
  have hp := pow10 G.1
  have hn := G.1
  have htl : t < 2 ^ n := Nat.lt_of_le_of_lt (subS_le hc.1) hs
  have hvn := bit_ltn htl hv
  refine eq_of_bits (fun i => ⟨?_, ?_⟩)
  · exact hang_min (C := fun i => (hangN n nb v s).testBit i = true) (hang_self n nb v s) (fun k i hk hC hi hti => hang_closed (by omega) (by omega) hk hC hi (hc.1 i hti)) i
  · refine hang_min (C := fun i => (hangN n nb v t).testBit i = true) (hang_self n nb v t) (fun k i hk hC hi hsi => ?_) i
    exact hang_closed (by omega) (by omega) hk hC hi (hc.2 k i (hang_sub hv k hC) hsi hi)
theorem CLs_sd (G : GR n nb) {v s t : Nat} (hs : s < 2 ^ n) (hc : CLs nb t s) (hv : t.testBit v = true) : CLs nb (sd t (hangN n nb v s)) s := by
  have hp := pow10 G.1
  have hn := G.1
  have htl : t < 2 ^ n := Nat.lt_of_le_of_lt (subS_le hc.1) hs
  have hvn := bit_ltn htl hv
  refine ⟨fun i hi => hc.1 i ((sd_t (by omega)).mp hi).1, fun i k hi hk hik => ?_⟩
  obtain ⟨h1, h2⟩ := (sd_t (by omega)).mp hi
  refine (sd_t (by omega)).mpr ⟨hc.2 i k h1 hk hik, ?_⟩
  cases hH : (hangN n nb v s).testBit k with
  | false => rfl
  | true =>
    have hkn := bit_ltn hs hk
    have h3 := hang_closed (n := n) (nb := nb) (v := v) (s := s) (i := i) (by omega) (by omega) hkn hH (gr_sym G (bit_ltn htl h1) hik) (hc.1 i h1)
    rw [h3] at h2; cases h2
/-- part after part of s, as the reference goes -/
def rpF (n : Nat) (nb : Nat → Nat) (s : Nat) (g : Nat → Nat → Nat) : Nat → Nat → Nat → Nat
  | 0, _, m => m
  | f + 1, t, m => if t = 0 then m else rpF n nb s g f (sd t (hangN n nb (low t) s)) (g (hangN n nb (low t) s) m)
theorem pie_rp (G : GR n nb) {s : Nat} (hs : s < 2 ^ n) {g : Nat → Nat → Nat} : ∀ f t m, CLs nb t s → pieF nb (fun t m => g (pcN nb t) m) f t m = rpF n nb s g f t m
  | 0, t, m, hc => rfl
  | f + 1, t, m, hc => by
    have hp := pow10 G.1
    have htl : t < 2 ^ n := Nat.lt_of_le_of_lt (subS_le hc.1) hs
    simp only [pieF, rpF]
    by_cases h0 : t = 0
    · rw [if_pos h0, if_pos h0]
    · rw [if_neg h0, if_neg h0]
      have hlb := low_bit (show t < 1024 by omega) h0
      have e1 : pcN nb t = hangN n nb (low t) s := by rw [pc_hang G.1 htl h0, hang_local G hs hc hlb]
      have e2 : sd (t &&& (t - 1)) (pcN nb t) = sd t (hangN n nb (low t) s) := by
        rw [e1, lowrest t (by omega) h0]
        refine eq_of_bits (fun i => ?_)
        rw [sd_t (sd_lt (by omega)), sd_t (by omega), sd_t (by omega)]
        constructor
        · rintro ⟨⟨a, b⟩, c⟩; exact ⟨a, c⟩
        · rintro ⟨a, c⟩
          refine ⟨⟨a, ?_⟩, c⟩
          cases hb : (2 ^ low t).testBit i with
          | false => rfl
          | true => rw [pow_t.mp hb, hang_self] at c; cases c
      rw [e2, e1]
      exact pie_rp G hs f _ _ (CLs_sd G hs hc hlb)
theorem cpr_parts (G : GR n nb) : cprN n nb = partsN n nb (2 ^ n - 1) := by
  have hp1 : 1 ≤ 2 ^ n := Nat.one_le_two_pow
  unfold cprN pieN partsN
  rw [pie_rp G (s := 2 ^ n - 1) (by omega) (g := fun _ m => m + 1) 1024 _ 0 (CLs_self _)]
  suffices h : ∀ f t m, rpF n nb (2 ^ n - 1) (fun _ m => m + 1) f t m = partsC n nb (2 ^ n - 1) f t m from h _ _ _
  intro f
  induction f with
  | zero => intro t m; rfl
  | succ f ih => intro t m; simp only [rpF, partsC]; rw [ih]
/-- what lies around a part of what is left of s is in s -/
theorem part_around (G : GR n nb) {s v : Nat} (hs : s < 2 ^ n) (hv : (sd (2 ^ n - 1) s).testBit v = true) : rcN nb (hangN n nb v (sd (2 ^ n - 1) s)) &&& s = s ↔ sd (reachN n nb (hangN n nb v (sd (2 ^ n - 1) s))) (hangN n nb v (sd (2 ^ n - 1) s)) = s := by
  have hp := pow10 G.1
  have hn := G.1
  have hp1 : 1 ≤ 2 ^ n := Nat.one_le_two_pow
  have hll : sd (2 ^ n - 1) s < 2 ^ n := by have := sd_le (a := 2 ^ n - 1) (b := s); omega
  have hvn := bit_ltn hll hv
  have hsub := hang_sub (n := n) (nb := nb) hv
  have hhl := hangN_lt (n := n) (nb := nb) (v := v) (s := sd (2 ^ n - 1) s) (by omega) (by omega)
  have hrl := reachN_lt hn (gr_1024 G) (hangN n nb v (sd (2 ^ n - 1) s))
  have hbits : ∀ i, (sd (reachN n nb (hangN n nb v (sd (2 ^ n - 1) s))) (hangN n nb v (sd (2 ^ n - 1) s))).testBit i = true ↔ (rcN nb (hangN n nb v (sd (2 ^ n - 1) s))).testBit i = true ∧ s.testBit i = true := by
    intro i
    rw [sd_t hrl, reach_t, rc_t _ hhl]
    constructor
    · rintro ⟨⟨k, h1, h2, h3⟩, h4⟩
      refine ⟨⟨k, h2, h3⟩, ?_⟩
      cases hsi : s.testBit i with
      | true => rfl
      | false =>
        have h5 : (sd (2 ^ n - 1) s).testBit i = true := (sd_t (by omega)).mpr ⟨all_t.mpr (gr_lt G h1 h3), hsi⟩
        rw [hang_closed (by omega) (by omega) h1 h2 h3 h5] at h4; cases h4
    · rintro ⟨⟨k, h2, h3⟩, h4⟩
      refine ⟨⟨k, bit_ltn hll (hsub k h2), h2, h3⟩, ?_⟩
      cases hh : (hangN n nb v (sd (2 ^ n - 1) s)).testBit i with
      | false => rfl
      | true => have := ((sd_t (show 2 ^ n - 1 < 1024 by omega)).mp (hsub i hh)).2; rw [h4] at this; cases this
  constructor
  · intro h
    refine eq_of_bits (fun i => ?_)
    rw [hbits]
    constructor
    · exact fun h => h.2
    · intro hi
      rw [← h] at hi
      exact and_t.mp hi
  · intro h
    refine eq_of_bits (fun i => ?_)
    rw [and_t]
    constructor
    · exact fun h => h.2
    · intro hi
      refine ⟨?_, hi⟩
      rw [← h] at hi
      exact ((hbits i).mp hi).1
theorem sep_eq (G : GR n nb) {s : Nat} (hs : s < 2 ^ n) : cspN n nb s = sepN n nb s := by
  have hp := pow10 G.1
  have hp1 : 1 ≤ 2 ^ n := Nat.one_le_two_pow
  have hll : sd (2 ^ n - 1) s < 2 ^ n := by have := sd_le (a := 2 ^ n - 1) (b := s); omega
  unfold cspN sepN pieN
  rw [pie_rp G (s := sd (2 ^ n - 1) s) hll (g := fun t m => if rcN nb t &&& s = s then m + 1 else m) 1024 _ 0 (CLs_self _)]
  suffices h : ∀ f t m, CLs nb t (sd (2 ^ n - 1) s) → rpF n nb (sd (2 ^ n - 1) s) (fun t m => if rcN nb t &&& s = s then m + 1 else m) f t m = sepC n nb s (sd (2 ^ n - 1) s) f t m by
    rw [h 1024 _ 0 (CLs_self _)]
    rfl
  intro f
  induction f with
  | zero => intro t m _; rfl
  | succ f ih =>
    intro t m hc
    have htl : t < 2 ^ n := Nat.lt_of_le_of_lt (subS_le hc.1) hll
    simp only [rpF, sepC]
    by_cases h0 : t = 0
    · rw [if_pos h0, if_pos h0]
    · rw [if_neg h0, if_neg h0]
      have hlb := low_bit (show t < 1024 by omega) h0
      rw [ih _ _ (CLs_sd G hll hc hlb)]
      have he := part_around G hs (hc.1 _ hlb)
      by_cases hr : rcN nb (hangN n nb (low t) (sd (2 ^ n - 1) s)) &&& s = s
      · rw [if_pos hr, if_pos (he.mp hr)]
      · rw [if_neg hr, if_neg (fun h => hr (he.mpr h))]; rfl
end GG
