/-! what is touched, what is seen -/
section GG
variable {n : Nat} {nb : Nat → Nat}
theorem rp_or (G : GR n nb) {s v : Nat} (hs : s < 2 ^ n) : ∀ f t m, CLs nb t s → t ≤ f → ∀ i, (rpF n nb s (fun p m => if (rcN nb p).testBit v then m ||| p else m) f t m).testBit i = true ↔ m.testBit i = true ∨ (t.testBit i = true ∧ (rcN nb (hangN n nb i s)).testBit v = true)
  | 0, t, m, hc, ht, i => by
    have : t = 0 := by omega
    subst this
    simp [rpF]
  | f + 1, t, m, hc, ht, i => by
    have hp := pow10 G.1
    have hn := G.1
    have htl : t < 2 ^ n := Nat.lt_of_le_of_lt (subS_le hc.1) hs
    simp only [rpF]
    by_cases h0 : t = 0
    · rw [if_pos h0]; subst h0; simp
    · rw [if_neg h0]
      have hlb := low_bit (show t < 1024 by omega) h0
      have hsl := hc.1 _ hlb
      have hless := sd_lss (show t < 1024 by omega) hlb (hang_self n nb (low t) s)
      rw [rp_or G hs f _ _ (CLs_sd G hs hc hlb) (by omega) i, sd_t (by omega)]
      have hHt : ∀ j, (hangN n nb (low t) s).testBit j = true → t.testBit j = true := by
        rw [← hang_local G hs hc hlb]; exact hang_sub hlb
      cases hr : (rcN nb (hangN n nb (low t) s)).testBit v with
      | true =>
        rw [if_pos rfl, or_t]
        constructor
        · rintro ((h | h) | ⟨⟨h1, h2⟩, h3⟩)
          · exact Or.inl h
          · refine Or.inr ⟨hHt i h, ?_⟩
            rw [hang_eq G hs hsl h]; exact hr
          · exact Or.inr ⟨h1, h3⟩
        · rintro (h | ⟨h1, h2⟩)
          · exact Or.inl (Or.inl h)
          · cases hH : (hangN n nb (low t) s).testBit i with
            | true => exact Or.inl (Or.inr rfl)
            | false => exact Or.inr ⟨⟨h1, rfl⟩, h2⟩
      | false =>
        rw [if_neg (by decide)]
        constructor
        · rintro (h | ⟨⟨h1, h2⟩, h3⟩)
          · exact Or.inl h
          · exact Or.inr ⟨h1, h3⟩
        · rintro (h | ⟨h1, h2⟩)
          · exact Or.inl h
          · cases hH : (hangN n nb (low t) s).testBit i with
            | true => rw [hang_eq G hs hsl hH, hr] at h2; cases h2
            | false => exact Or.inr ⟨⟨h1, rfl⟩, h2⟩
theorem tch_t (G : GR n nb) {s v i : Nat} (hs : s < 2 ^ n) : (tchN nb s v).testBit i = true ↔ s.testBit i = true ∧ (rcN nb (hangN n nb i s)).testBit v = true := by
  have hp := pow10 G.1
  unfold tchN pieN
  rw [pie_rp G hs (g := fun p m => if (rcN nb p).testBit v then m ||| p else m) 1024 s 0 (CLs_self _), rp_or G hs 1024 s 0 (CLs_self _) (by omega)]
  simp
/-- v with all ahead that it touches is what hangs together with v -/
theorem hang_tch (G : GR n nb) {s v : Nat} (hs : s < 2 ^ n) (hv : v < n) (hsv : s.testBit v = false) : hangN n nb v (s ||| 2 ^ v) = tchN nb s v ||| 2 ^ v := by
  have hp := pow10 G.1
  have hn := G.1
  have hol := or_ltn hs hv
  have hsm : ∀ i, s.testBit i = true → (s ||| 2 ^ v).testBit i = true := fun i h => or_t.mpr (Or.inl h)
  refine eq_of_bits (fun i => ⟨?_, ?_⟩)
  · refine hang_min (C := fun i => (tchN nb s v ||| 2 ^ v).testBit i = true) (or_t.mpr (Or.inr (pow_t.mpr rfl))) (fun k i hk hC hi hsi => ?_) i
    rcases or_t.mp hsi with h | h
    · refine or_t.mpr (Or.inl ((tch_t G hs).mpr ⟨h, ?_⟩))
      have hin := bit_ltn hs h
      rcases or_t.mp hC with g | g
      · obtain ⟨g1, g2⟩ := (tch_t G hs).mp g
        have hki : (hangN n nb k s).testBit i = true := hang_closed (by omega) (by omega) hk (hang_self n nb k s) hi h
        rw [hang_eq G hs g1 hki]; exact g2
      · have ek := pow_t.mp g
        subst ek
        exact (rc_t _ (hangN_lt (by omega) (by omega))).mpr ⟨i, hang_self n nb i s, gr_sym G hk hi⟩
    · exact or_t.mpr (Or.inr h)
  · intro h
    rcases or_t.mp h with h | h
    · obtain ⟨h1, h2⟩ := (tch_t G hs).mp h
      have hin := bit_ltn hs h1
      obtain ⟨k, k1, k2⟩ := (rc_t _ (hangN_lt (show i < 10 by omega) (show s < 1024 by omega))).mp h2
      have hks := hang_sub h1 k k1
      have hkn := bit_ltn hs hks
      -- v reaches k, and k reaches i within s
      have hvk : (hangN n nb v (s ||| 2 ^ v)).testBit k = true := hang_closed (by omega) (by omega) hv (hang_self n nb v _) (gr_sym G hkn k2) (hsm k hks)
      have hik := (hang_sym G hs h1 k1).2
      refine hang_in G hv hol hvk i ?_
      refine hang_min (C := fun i => (hangN n nb k (s ||| 2 ^ v)).testBit i = true) (hang_self n nb k _) (fun k' i' hk' hC' hi' hsi' => ?_) i hik
      exact hang_closed (by omega) (by omega) hk' hC' hi' (hsm i' hsi')
    · rw [pow_t.mp h]; exact hang_self n nb v _
theorem tch_subS (G : GR n nb) {s v : Nat} (hs : s < 2 ^ n) : subS (tchN nb s v) s := fun i h => ((tch_t G hs).mp h).1
/-- what is seen is the same on both sides -/
theorem sees_past (G : GR n nb) {s v : Nat} (hs : s < 2 ^ n) (hv : v < n) (hsv : s.testBit v = false) : seesN n nb s v = pastN nb s v := by
  have hp := pow10 G.1
  have hn := G.1
  have hol := or_ltn hs hv
  have htl : tchN nb s v < 2 ^ n := Nat.lt_of_le_of_lt (subS_le (tch_subS G hs)) hs
  have hsub := hang_sub (n := n) (nb := nb) (v := v) (s := s ||| 2 ^ v) (or_t.mpr (Or.inr (pow_t.mpr rfl)))
  unfold seesN pastN
  refine eq_of_bits (fun i => ?_)
  have hnv := gr_1024 G v (by omega)
  have hrt := rc_lt (gr_1024 G) (tchN nb s v) (by omega)
  rw [sd_t (reachN_lt hn (gr_1024 G) _), reach_t, sd_t (sd_lt (or_lt hnv hrt)), sd_t (or_lt hnv hrt), or_t, rc_t _ (by omega)]
  constructor
  · rintro ⟨⟨k, k1, k2, k3⟩, h4⟩
    have hnot : (s ||| 2 ^ v).testBit i = false := by
      cases hb : (s ||| 2 ^ v).testBit i with
      | false => rfl
      | true => rw [hang_closed (by omega) (by omega) k1 k2 k3 hb] at h4; cases h4
    have hb1 : s.testBit i = false := by
      cases hb : s.testBit i with
      | false => rfl
      | true => rw [or_t.mpr (Or.inl hb)] at hnot; cases hnot
    have hb2 : (2 ^ v).testBit i = false := by
      cases hb : (2 ^ v).testBit i with
      | false => rfl
      | true => rw [or_t.mpr (Or.inr hb)] at hnot; cases hnot
    refine ⟨⟨?_, hb1⟩, hb2⟩
    rw [hang_tch G hs hv hsv] at k2
    rcases or_t.mp k2 with g | g
    · exact Or.inr ⟨k, g, k3⟩
    · left; rw [← pow_t.mp g]; exact k3
  · rintro ⟨⟨h1, h2⟩, h3⟩
    have hnh : (hangN n nb v (s ||| 2 ^ v)).testBit i = false := by
      cases hb : (hangN n nb v (s ||| 2 ^ v)).testBit i with
      | false => rfl
      | true =>
        rcases or_t.mp (hsub i hb) with g | g
        · rw [h2] at g; cases g
        · rw [h3] at g; cases g
    refine ⟨?_, hnh⟩
    rw [hang_tch G hs hv hsv]
    rcases h1 with h1 | ⟨k, g1, g2⟩
    · exact ⟨v, hv, or_t.mpr (Or.inr (pow_t.mpr rfl)), h1⟩
    · exact ⟨k, bit_ltn htl g1, or_t.mpr (Or.inl g1), g2⟩
end GG
