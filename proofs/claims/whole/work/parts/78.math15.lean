/-! the class's arms are ways from the last vertex -/
theorem armT_sum {g : Nat → Int64} {s e : Nat} (hs : s < 1024) : armT g s e = Sg (fun w => if (s &&& e).testBit w then g (s * 9 + w) else 0) 10 := by
  unfold armT
  have h := bit_sum (g := fun w => g (s * 9 + w)) (s &&& e) 0 (and_lt hs)
  have e1 : bitN (fun t a => a + g (s * 9 + low t)) (s &&& e) 0 = bitN (fun t a => a + (fun w => g (s * 9 + w)) (low t)) (s &&& e) 0 := rfl
  rw [e1, h]
  grind
theorem armV_dep {n : Nat} {nb : Nat → Nat} {g g' : Nat → Int64} {s v : Nat} (hs : s < 512) (h : ∀ t w, t < s → w < 9 → g (t * 9 + w) = g' (t * 9 + w)) : armV n nb g s v = armV n nb g' s v := by
  unfold armV
  by_cases c1 : sd s (2 ^ v) = 0
  · rw [if_pos c1, if_pos c1]
  · rw [if_neg c1, if_neg c1]
    by_cases c2 : sd s (2 ^ v) = s
    · rw [if_pos c2, if_pos c2]
    · have hle := sd_le (a := s) (b := 2 ^ v)
      rw [if_neg c2, if_neg c2, armT_sum (by omega), armT_sum (by omega)]
      refine Sg_congr 10 (fun w _ => ?_)
      try dsimp only
      cases hb : (sd s (2 ^ v) &&& nb v).testBit w with
      | false => rfl
      | true =>
        have hw : w < 9 := bit_ltn (n := 9) (s := sd s (2 ^ v)) (by have : (2 : Nat) ^ 9 = 512 := by decide
                                                                    omega) (and_t.mp hb).1
        rw [if_pos rfl, if_pos rfl, h _ w (by omega) hw]
theorem armR_at {n : Nat} {nb : Nat → Nat} {s : Nat} (hn : n ≤ 10) (hs : s < 512) {g : Nat → Int64} : ∀ j, j ≤ n - 1 → (∀ t w, w < 9 → t ≠ s → forN (fun v g => vp_updL g (s * 9 + v) (armV n nb g s v)) j g (t * 9 + w) = g (t * 9 + w)) ∧ ∀ v, v < j → forN (fun v g => vp_updL g (s * 9 + v) (armV n nb g s v)) j g (s * 9 + v) = armV n nb g s v := by
  intro j
  induction j with
  | zero => exact fun _ => ⟨fun t w _ _ => rfl, fun v hv => absurd hv (Nat.not_lt_zero _)⟩
  | succ j ih =>
    intro hj
    obtain ⟨i1, i2⟩ := ih (by omega)
    generalize hT : forN (fun v g => vp_updL g (s * 9 + v) (armV n nb g s v)) j g = T at i1 i2
    have e : forN (fun v g => vp_updL g (s * 9 + v) (armV n nb g s v)) (j + 1) g = vp_updL T (s * 9 + j) (armV n nb T s j) := by rw [← hT]; rfl
    rw [e]
    refine ⟨fun t w hw ht => ?_, fun v hv => ?_⟩
    · rw [vpu_n (by omega)]; exact i1 t w hw ht
    · by_cases ev : v = j
      · rw [ev, vpu_s]
        exact armV_dep hs (fun t w ht hw => i1 t w hw (by omega))
      · rw [vpu_n (by omega)]; exact i2 v (by omega)
theorem armA_at {n : Nat} {nb : Nat → Nat} (hn : n ≤ 10) (h1 : 1 ≤ n) {g : Nat → Int64} : ∀ j, j ≤ 2 ^ (n - 1) - 1 → ∀ s v, 0 < s → s ≤ j → v < n - 1 → forN (fun k g => armR n nb (k + 1) g) j g (s * 9 + v) = armV n nb (forN (fun k g => armR n nb (k + 1) g) j g) s v := by
  have hph := pow_half hn h1
  intro j
  induction j with
  | zero => exact fun _ s v h0 hs => by omega
  | succ j ih =>
    intro hj s v h0 hs hv
    have i := ih (by omega)
    generalize hT : forN (fun k g => armR n nb (k + 1) g) j g = T at i
    have e : forN (fun k g => armR n nb (k + 1) g) (j + 1) g = armR n nb (j + 1) T := by rw [← hT]; rfl
    rw [e]
    obtain ⟨r1, r2⟩ := armR_at (nb := nb) (s := j + 1) hn (by omega) (g := T) (n - 1) (Nat.le_refl _)
    change (∀ t w, w < 9 → t ≠ j + 1 → armR n nb (j + 1) T (t * 9 + w) = T (t * 9 + w)) at r1
    change (∀ v, v < n - 1 → armR n nb (j + 1) T ((j + 1) * 9 + v) = armV n nb T (j + 1) v) at r2
    by_cases es : s = j + 1
    · subst es
      rw [r2 v hv]
      exact armV_dep (by omega) (fun t w ht hw => (r1 t w hw (by omega)).symm)
    · rw [r1 s v (by omega) es, i s v h0 (by omega) hv]
      exact armV_dep (by omega) (fun t w ht hw => (r1 t w hw (by omega)).symm)
section GG
variable {n : Nat} {nb : Nat → Nat}
theorem hp_self {s x : Nat} (hs : s < 1024) (hx : x < 10) (h0 : ¬ s = 0) (h : s.testBit x = false) : hpN nb (s ||| 2 ^ x) x x = 0 := by
  rw [hp_step (or_lt hs (pow_lt hx)) (or_t.mpr (Or.inr (pow_t.mpr rfl))) (by rw [or_sd hs hx h]; exact h0), or_sd hs hx h, Sg_congr 10 (g := fun _ => 0) (fun w _ => ?_), Sg_0]
  split
  · exact hp_begin hs h
  · rfl
/-- the class's arms -/
theorem arm_hp (G : GR n nb) (h2 : 2 ≤ n) {g : Nat → Int64} : ∀ s, 0 < s → s < 2 ^ (n - 1) → ∀ v, v < n - 1 → armA n nb g (s * 9 + v) = hpN nb (s ||| 2 ^ (n - 1)) (n - 1) v := by
  have hn := G.1
  have hph := pow_half hn (by omega)
  have hx : n - 1 < 10 := by omega
  have hpx : 2 ^ (n - 1) < 1024 := pow_lt hx
  intro s
  refine wh_ind (P := fun s => 0 < s → s < 2 ^ (n - 1) → ∀ v, v < n - 1 → armA n nb g (s * 9 + v) = hpN nb (s ||| 2 ^ (n - 1)) (n - 1) v) (fun s => s) (fun s ih h0 hs v hv => ?_) s
  have hat : armA n nb g (s * 9 + v) = armV n nb (armA n nb g) s v := armA_at hn (by omega) _ (Nat.le_refl _) s v h0 (by omega) hv
  have hsx : s.testBit (n - 1) = false := Bool.eq_false_iff.mpr (fun g => by have := bit_ltn hs g; omega)
  have hSl : s ||| 2 ^ (n - 1) < 1024 := or_lt (by omega) hpx
  rw [hat]
  unfold armV
  by_cases c1 : sd s (2 ^ v) = 0
  · rw [if_pos c1]
    have hsv : s.testBit v = true := by
      refine Classical.byContradiction (fun g => ?_)
      have : sd s (2 ^ v) = s := eq_of_bits (fun i => by
        rw [sd_t (by omega)]
        exact ⟨fun h => h.1, fun h => ⟨h, Bool.eq_false_iff.mpr (fun g2 => g (by rw [← pow_t.mp g2]; exact h))⟩⟩)
      omega
    have hS : sd (s ||| 2 ^ (n - 1)) (2 ^ v) = 2 ^ (n - 1) := by
      refine eq_of_bits (fun i => ?_)
      rw [sd_t hSl, or_t]
      constructor
      · rintro ⟨h | h, g⟩
        · have : (sd s (2 ^ v)).testBit i = true := (sd_t (by omega)).mpr ⟨h, g⟩
          rw [c1] at this; simp at this
        · exact h
      · intro h
        refine ⟨Or.inr h, Bool.eq_false_iff.mpr (fun g => ?_)⟩
        have e1 := pow_t.mp h
        have e2 := pow_t.mp g
        omega
    have hne : ¬ sd (s ||| 2 ^ (n - 1)) (2 ^ v) = 0 := by rw [hS]; have := Nat.two_pow_pos (n - 1); omega
    rw [hp_step hSl (or_t.mpr (Or.inl hsv)) hne, hS, Sg_one (l := n - 1) 10 hx (fun w _ hw => ?_)]
    · have hself : sd (2 ^ (n - 1)) (2 ^ (n - 1)) = 0 := (sd_eq0 hpx (Nat.and_self _)).mpr rfl
      rw [hp_one (pow_t.mpr rfl) hself, if_pos rfl]
      cases hb : (nb (n - 1)).testBit v with
      | true => rw [if_pos (gr_sym G (by omega) hb)]; rfl
      | false => rw [if_neg (fun g => by rw [gr_sym G (by omega) g] at hb; cases hb)]; rfl
    · split
      · exact hp_out (Bool.eq_false_iff.mpr (fun g => hw (pow_t.mp g)))
      · rfl
  · rw [if_neg c1]
    by_cases c2 : sd s (2 ^ v) = s
    · rw [if_pos c2]
      refine (hp_out (Bool.eq_false_iff.mpr (fun g => ?_))).symm
      rcases or_t.mp g with g | g
      · have h5 : (sd s (2 ^ v)).testBit v = true := by rw [c2]; exact g
        have := ((sd_t (show s < 1024 by omega)).mp h5).2
        rw [pow_t.mpr rfl] at this; cases this
      · have := pow_t.mp g; omega
    · rw [if_neg c2]
      have hsv : s.testBit v = true := by
        refine Classical.byContradiction (fun g => c2 (eq_of_bits (fun i => ?_)))
        rw [sd_t (by omega)]
        exact ⟨fun h => h.1, fun h => ⟨h, Bool.eq_false_iff.mpr (fun g2 => g (by rw [← pow_t.mp g2]; exact h))⟩⟩
      have hlt := sd_one_lt (show s < 1024 by omega) hsv
      have hS : sd (s ||| 2 ^ (n - 1)) (2 ^ v) = sd s (2 ^ v) ||| 2 ^ (n - 1) := by
        refine eq_of_bits (fun i => ?_)
        rw [sd_t hSl, or_t, or_t, sd_t (by omega)]
        constructor
        · rintro ⟨h | h, g⟩
          · exact Or.inl ⟨h, g⟩
          · exact Or.inr h
        · rintro (⟨h, g⟩ | h)
          · exact ⟨Or.inl h, g⟩
          · refine ⟨Or.inr h, Bool.eq_false_iff.mpr (fun g => ?_)⟩
            have e1 := pow_t.mp h
            have e2 := pow_t.mp g
            omega
      have hne : ¬ sd (s ||| 2 ^ (n - 1)) (2 ^ v) = 0 := by
        rw [hS]; intro g
        have : (sd s (2 ^ v) ||| 2 ^ (n - 1)).testBit (n - 1) = true := or_t.mpr (Or.inr (pow_t.mpr rfl))
        rw [g] at this; simp at this
      have hbx : (sd s (2 ^ v)).testBit (n - 1) = false := Bool.eq_false_iff.mpr (fun g => by rw [((sd_t (show s < 1024 by omega)).mp g).1] at hsx; cases hsx)
      rw [hp_step hSl (or_t.mpr (Or.inl hsv)) hne, hS, armT_sum (by omega)]
      refine Sg_congr 10 (fun w _ => ?_)
      try dsimp only
      cases hbw : (sd s (2 ^ v)).testBit w with
      | true =>
        have hw := bit_ltn (n := n - 1) (Nat.lt_of_le_of_lt sd_le hs) hbw
        cases hbn : (nb v).testBit w with
        | true => rw [if_pos (and_t.mpr ⟨hbw, hbn⟩), if_pos rfl, ih _ hlt (by omega) (by omega) w hw]
        | false => rw [if_neg (fun g => by rw [(and_t.mp g).2] at hbn; cases hbn), if_neg (by decide)]
      | false =>
        rw [if_neg (fun g => by rw [(and_t.mp g).1] at hbw; cases hbw)]
        split
        · by_cases ew : w = n - 1
          · rw [ew, hp_self (by omega) hx (by omega) hbx]
          · refine (hp_out (Bool.eq_false_iff.mpr (fun g => ?_))).symm
            rcases or_t.mp g with g | g
            · rw [hbw] at g; cases g
            · exact ew (pow_t.mp g)
        · rfl
theorem all_split (h1 : 1 ≤ n) (hn : n ≤ 10) : sd (2 ^ n - 1) (2 ^ (n - 1)) = 2 ^ (n - 1) - 1 ∧ (2 ^ (n - 1) - 1) ||| 2 ^ (n - 1) = 2 ^ n - 1 := by
  have h : ∀ n, n < 11 → 1 ≤ n → sd (2 ^ n - 1) (2 ^ (n - 1)) = 2 ^ (n - 1) - 1 ∧ (2 ^ (n - 1) - 1) ||| 2 ^ (n - 1) = 2 ^ n - 1 := by decide +kernel
  exact h n (by omega) h1
/-- the class's rings -/
theorem cring_eq (G : GR n nb) (h2 : 2 ≤ n) {g : Nat → Int64} : armT (armA n nb g) (sd (2 ^ n - 1) (2 ^ (n - 1))) (nb (n - 1)) = ringN nb (2 ^ n - 1) (n - 1) := by
  have hn := G.1
  have hph := pow_half hn (by omega)
  obtain ⟨s1, s2⟩ := all_split (n := n) (by omega) hn
  have hp2 : 2 ≤ 2 ^ (n - 1) := by
    have : 2 ^ 1 ≤ 2 ^ (n - 1) := Nat.pow_le_pow_right (by decide) (by omega)
    omega
  rw [s1, armT_sum (by omega)]
  unfold ringN
  refine Sg_congr 10 (fun w _ => ?_)
  try dsimp only
  cases hbn : (nb (n - 1)).testBit w with
  | false => rw [if_neg (fun g => by rw [(and_t.mp g).2] at hbn; cases hbn), if_neg (by decide)]
  | true =>
    have hw := gr_lt G (show n - 1 < n by omega) hbn
    have hwx : w ≠ n - 1 := fun e => by rw [e, G.2.2.2.2 (n - 1) (by omega)] at hbn; cases hbn
    rw [if_pos (and_t.mpr ⟨all_t.mpr (by omega), hbn⟩), if_pos rfl, arm_hp G h2 _ (by omega) (by omega) w (by omega), s2]
theorem way_row {n : Nat} {gg f : Nat → Int64} : ∀ A, A < 2 ^ (n - 1) → wayG gg n f A = if A = 0 then 1 else armT gg A (2 ^ (n - 1) - 1) := by
  intro A hA
  have h := forN_inv (f := fun k (f : Nat → Int64) => vp_updL f (k + 1) (armT gg (k + 1) (2 ^ (n - 1) - 1))) (n := 2 ^ (n - 1) - 1) (a := vp_updL f 0 1) (I := fun k (f : Nat → Int64) => A ≤ k → f A = if A = 0 then 1 else armT gg A (2 ^ (n - 1) - 1)) (fun h => ?_) (fun k f hk hf h => ?_) (2 ^ (n - 1) - 1) (Nat.le_refl _)
  · exact h (by omega)
  · rw [show A = 0 by omega, vpu_s, if_pos rfl]
  · by_cases e : A = k + 1
    · rw [e, vpu_s, if_neg (by omega)]
    · rw [vpu_n e]; exact hf (by omega)
/-- the class's ways -/
theorem cway_eq (G : GR n nb) (h2 : 2 ≤ n) {g f : Nat → Int64} : wayT (wayG (armA n nb g) n f) n = Sg (fun u => Sg (fun v => hpN nb (2 ^ n - 1) u v) 10) 10 := by
  have hn := G.1
  have hp := pow10 hn
  have hph := pow_half hn (by omega)
  have hx : n - 1 < 10 := by omega
  have hpx : 2 ^ (n - 1) < 1024 := pow_lt hx
  obtain ⟨s1, s2⟩ := all_split (n := n) (by omega) hn
  have hpp1 : 1 ≤ 2 ^ (n - 1) := Nat.one_le_two_pow
  rw [ways_arms G (x := n - 1) (by omega) hx (all_t.mpr (by omega)), s1]
  have hrow : ∀ A, A < 2 ^ (n - 1) → wayG (armA n nb g) n f A = armN nb (n - 1) A := by
    intro A hA
    rw [way_row A hA]
    unfold armN
    by_cases e : A = 0
    · subst e
      rw [if_pos rfl, Nat.zero_or, Sg_one (l := n - 1) 10 hx (fun w _ hw => hp_out (Bool.eq_false_iff.mpr (fun g => hw (pow_t.mp g)))), hp_one (pow_t.mpr rfl) ((sd_eq0 hpx (Nat.and_self _)).mpr rfl), if_pos rfl]
    · rw [if_neg e, armT_sum (by omega)]
      have hAx : A.testBit (n - 1) = false := Bool.eq_false_iff.mpr (fun g => by have := bit_ltn hA g; omega)
      refine Sg_congr 10 (fun w _ => ?_)
      try dsimp only
      cases hb : A.testBit w with
      | true =>
        have hw := bit_ltn hA hb
        rw [if_pos (and_t.mpr ⟨hb, all_t.mpr hw⟩), arm_hp G h2 A (by omega) hA w hw]
      | false =>
        rw [if_neg (fun g => by rw [(and_t.mp g).1] at hb; cases hb)]
        by_cases ew : w = n - 1
        · rw [ew, hp_self (by omega) hx e hAx]
        · refine (hp_out (Bool.eq_false_iff.mpr (fun g => ?_))).symm
          rcases or_t.mp g with g | g
          · rw [hb] at g; cases g
          · exact ew (pow_t.mp g)
  have e1 : wayT (wayG (armA n nb g) n f) n = Sg (fun k => wayG (armA n nb g) n f k * wayG (armA n nb g) n f (sd (2 ^ (n - 1) - 1) k)) (2 ^ (n - 1)) := rfl
  rw [e1, Su_le (N := 2 ^ (n - 1)) (by omega) (by omega)]
  refine Sg_congr _ (fun k hk => ?_)
  try dsimp only
  have hsub : k &&& (2 ^ (n - 1) - 1) = k := sub_t.mpr (fun i hi => all_t.mpr (bit_ltn hk hi))
  rw [if_pos hsub, hrow k hk, hrow _ (by have := sd_le (a := 2 ^ (n - 1) - 1) (b := k); omega)]
end GG
