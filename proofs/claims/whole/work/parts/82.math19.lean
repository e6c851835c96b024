/-! directions are not fewer than none -/
def sgZ (s : Nat) : Int := if pop s &&& 1 = 1 then -1 else 1
def dzF (n : Nat) (nb : Nat → Nat) : Nat → Nat → Int
  | 0, _ => 1
  | f + 1, s => if s = 0 then 1 else Su s (fun t => if ¬ t = 0 ∧ apartN n nb t = true then - (sgZ t) * dzF n nb f (sd s t) else 0)
def dzN (n : Nat) (nb : Nat → Nat) (s : Nat) : Int := dzF n nb 1024 s
theorem hi_ok : ∀ w, w < 1024 → w ≠ 0 → w.testBit (lastN 10 w) = true ∧ lastN 10 w < 10 ∧ ∀ a, a < 10 → w.testBit a = true → a ≤ lastN 10 w := by decide +kernel
section GG
variable {n : Nat} {nb : Nat → Nat}
theorem sub_lt {s t : Nat} (hs : s < 1024) (ht : t < 1024) (e : t &&& s = t) (e0 : ¬ t = 0) : sd s t < s := sd_lss hs (sub_t.mp e _ (low_bit ht e0)) (low_bit ht e0)
theorem dzF_fuel : ∀ (f g s : Nat), s < 1024 → s ≤ f → s ≤ g → dzF n nb f s = dzF n nb g s
  | 0, 0, s, h, h1, h2 => rfl
  | 0, g + 1, s, h, h1, h2 => by
    have : s = 0 := by omega
    subst this; simp [dzF]
  | f + 1, 0, s, h, h1, h2 => by
    have : s = 0 := by omega
    subst this; simp [dzF]
  | f + 1, g + 1, s, h, h1, h2 => by
    simp only [dzF]
    by_cases e : s = 0
    · rw [if_pos e, if_pos e]
    · rw [if_neg e, if_neg e]
      refine Su_congr (fun t ht e2 => ?_)
      try dsimp only
      by_cases c : ¬ t = 0 ∧ apartN n nb t = true
      · have := sub_lt h ht e2 c.1
        rw [if_pos c, if_pos c, dzF_fuel f g _ (by omega) (by omega) (by omega)]
      · rw [if_neg c, if_neg c]
theorem dz_0 : dzN n nb 0 = 1 := rfl
theorem dz_rec {s : Nat} (hs : s < 1024) (h0 : ¬ s = 0) : dzN n nb s = Su s (fun t => if ¬ t = 0 ∧ apartN n nb t = true then - (sgZ t) * dzN n nb (sd s t) else 0) := by
  show (if s = 0 then (1 : Int) else Su s (fun t => if ¬ t = 0 ∧ apartN n nb t = true then - (sgZ t) * dzF n nb 1023 (sd s t) else 0)) = _
  rw [if_neg h0]
  refine Su_congr (fun t ht e2 => ?_)
  try dsimp only
  by_cases c : ¬ t = 0 ∧ apartN n nb t = true
  · have := sub_lt hs ht e2 c.1
    rw [if_pos c, if_pos c]
    unfold dzN
    rw [dzF_fuel 1023 1024 _ (by omega) (by omega) (by omega)]
  · rw [if_neg c, if_neg c]
theorem apart_0 : apartN n nb 0 = true := apart_t.mpr (fun k _ h => by simp at h)
theorem zr1 (a b : Int) (h : a = b) : a - b = 0 := by omega
theorem sum_zero {s : Nat} (hs : s < 1024) (h0 : ¬ s = 0) : Su s (fun t => if apartN n nb t = true then sgZ t * dzN n nb (sd s t) else 0) = 0 := by
  have h := dz_rec (n := n) (nb := nb) hs h0
  have e : Su s (fun t => if apartN n nb t = true then sgZ t * dzN n nb (sd s t) else 0) = Su s (fun t => (if t = 0 then dzN n nb s else 0) + (-1) * (if ¬ t = 0 ∧ apartN n nb t = true then - (sgZ t) * dzN n nb (sd s t) else 0)) := by
    refine Su_congr (fun t ht e2 => ?_)
    try dsimp only
    by_cases e0 : t = 0
    · subst e0
      have hz : sd s 0 = s := eq_of_bits (fun i => by rw [sd_t hs]; simp)
      rw [if_pos apart_0, if_pos rfl, if_neg (fun g => g.1 rfl), hz, show sgZ 0 = 1 by decide]
      omega
    · rw [if_neg e0]
      by_cases c : apartN n nb t = true
      · rw [if_pos c, if_pos ⟨e0, c⟩]
        generalize dzN n nb (sd s t) = x
        unfold sgZ
        split <;> omega
      · rw [if_neg c, if_neg (fun g => c g.2)]
        rfl
  rw [e, Su_add, Su_mul, ← h]
  have e2 : Su s (fun t => if t = 0 then dzN n nb s else 0) = dzN n nb s := by
    unfold Su
    rw [Sg_one (l := 0) 1024 (by omega) (fun t _ hne => by
      split
      · exact if_neg hne
      · rfl), if_pos (Nat.zero_and _)]
    exact if_pos rfl
  rw [e2]
  omega
/-- with none of X first -/
def NZ (n : Nat) (nb : Nat → Nat) (S X : Nat) : Int := Su S (fun T => if T &&& X = T ∧ apartN n nb T = true then sgZ T * dzN n nb (sd S T) else 0)
def XcN (nb : Nat → Nat) (S X c : Nat) : Nat := sd (sd S (2 ^ c)) (nb c) &&& (X ||| (2 ^ c - 1))
theorem sgZ_one {U c : Nat} (hU : U < 1024) (hc : c < 10) (h : U.testBit c = true) : sgZ (sd U (2 ^ c)) = - sgZ U := by
  have h1 : 2 ^ c &&& U = 2 ^ c := sub_t.mpr (fun i hi => by rw [pow_t.mp hi]; exact h)
  have h2 := pop_sd hU h1
  have h3 : pop (2 ^ c) = 1 := by
    have : ∀ c, c < 10 → pop (2 ^ c) = 1 := by decide
    exact this c hc
  unfold sgZ
  simp only [odd_and]
  rw [h2, h3]
  rcases Nat.mod_two_eq_zero_or_one (pop (sd U (2 ^ c))) with a | a
  · rw [if_neg (by omega), if_pos (by omega)]; rfl
  · rw [if_pos (by omega), if_neg (by omega)]
/-- the sets with c, by what is left of them -/
theorem Su_one {α : Type} [Lean.Grind.CommRing α] {S c : Nat} (hS : S < 1024) (hc : c < 10) (hSc : S.testBit c = true) {F : Nat → α} : Su (sd S (2 ^ c)) F = Su S (fun U => if U.testBit c = true then F (sd U (2 ^ c)) else 0) := by
  have hpl : 2 ^ c < 1024 := pow_lt hc
  have hx : ∀ t, t < 1024 → t ^^^ 2 ^ c < 1024 := fun t ht => Nat.xor_lt_two_pow (n := 10) ht hpl
  unfold Su
  rw [← Sg_bij (f := fun t => if t &&& S = t then (if t.testBit c = true then F (sd t (2 ^ c)) else 0) else 0) (p := fun t => t ^^^ 2 ^ c) hx (fun t _ => by rw [Nat.xor_assoc, Nat.xor_self, Nat.xor_zero])]
  refine Sg_congr 1024 (fun t ht => ?_)
  try dsimp only
  have hb : (t ^^^ 2 ^ c).testBit c = !t.testBit c := by rw [xor_t, if_pos rfl]
  cases htl : t.testBit c with
  | true =>
    rw [hb, htl, if_neg (show ¬ t &&& sd S (2 ^ c) = t from fun g => by
      have := ((sd_t hS).mp (sub_t.mp g c htl)).2
      rw [pow_t.mpr rfl] at this; cases this)]
    split
    · rfl
    · rfl
  | false =>
    have ho : t ^^^ 2 ^ c = t ||| 2 ^ c := by
      refine eq_of_bits (fun i => ?_)
      rw [xor_t, or_t, pow_t]
      by_cases e : i = c
      · subst e; rw [if_pos rfl, htl]; simp
      · rw [if_neg e]; simp [e]
    have hs2 : (t ^^^ 2 ^ c) &&& S = t ^^^ 2 ^ c ↔ t &&& sd S (2 ^ c) = t := by
      rw [ho, sub_t, sub_t]
      constructor
      · intro h i hi
        exact (sd_t hS).mpr ⟨h i (or_t.mpr (Or.inl hi)), Bool.eq_false_iff.mpr (fun g => by rw [pow_t.mp g, htl] at hi; cases hi)⟩
      · intro h i hi
        rcases or_t.mp hi with g | g
        · exact ((sd_t hS).mp (h i g)).1
        · rw [pow_t.mp g]; exact hSc
    rw [hb, htl]
    by_cases e : t &&& sd S (2 ^ c) = t
    · rw [if_pos e, if_pos (hs2.mpr e), if_pos (by decide), ho, or_sd ht hc htl]
    · rw [if_neg e, if_neg (fun g => e (hs2.mp g))]
theorem NZ_rec (G : GR n nb) {S X : Nat} (hS : S < 2 ^ n) (hX : X < 1024) (h0 : ¬ S = 0) : NZ n nb S X = Sg (fun c => if S.testBit c = true ∧ X.testBit c = false then NZ n nb (sd S (2 ^ c)) (XcN nb S X c) else 0) 10 := by
  have hn := G.1
  have hp := pow10 hn
  have hS1 : S < 1024 := by omega
  -- one first vertex
  have hc : ∀ c, c < 10 → (if S.testBit c = true ∧ X.testBit c = false then NZ n nb (sd S (2 ^ c)) (XcN nb S X c) else 0) = Su S (fun U => if (U.testBit c = true ∧ X.testBit c = false ∧ sd U (2 ^ c) &&& (X ||| (2 ^ c - 1)) = sd U (2 ^ c)) then (if apartN n nb U = true then (-1) * (sgZ U * dzN n nb (sd S U)) else 0) else 0) := by
    intro c hc
    by_cases hcc : S.testBit c = true ∧ X.testBit c = false
    · rw [if_pos hcc]
      unfold NZ
      rw [Su_one hS1 hc hcc.1]
      refine Su_congr (fun U hU e => ?_)
      try dsimp only
      have hcn := bit_ltn hS hcc.1
      cases hUc : U.testBit c with
      | false => rw [if_neg (by decide), if_neg (fun g => absurd g.1 (by decide))]
      | true =>
        rw [if_pos rfl]
        have hUS := sub_t.mp e
        have hsd : sd (sd S (2 ^ c)) (sd U (2 ^ c)) = sd S U := by
          refine eq_of_bits (fun i => ?_)
          rw [sd_t (sd_lt hS1), sd_t hS1, sd_t hS1]
          constructor
          · rintro ⟨⟨a, b⟩, d⟩
            refine ⟨a, Bool.eq_false_iff.mpr (fun g => ?_)⟩
            rw [(sd_t hU).mpr ⟨g, b⟩] at d; cases d
          · rintro ⟨a, b⟩
            refine ⟨⟨a, Bool.eq_false_iff.mpr (fun g => by rw [pow_t.mp g, hUc] at b; cases b)⟩, Bool.eq_false_iff.mpr (fun g => by rw [((sd_t hU).mp g).1] at b; cases b)⟩
        have hiff : (sd U (2 ^ c) &&& XcN nb S X c = sd U (2 ^ c) ∧ apartN n nb (sd U (2 ^ c)) = true) ↔ (sd U (2 ^ c) &&& (X ||| (2 ^ c - 1)) = sd U (2 ^ c) ∧ apartN n nb U = true) := by
          rw [sub_t, sub_t, apart_t, apart_t]
          constructor
          · rintro ⟨h1, h2⟩
            refine ⟨fun i hi => (and_t.mp (h1 i hi)).2, fun k hk hUk => eq_of_bits (fun i => ?_)⟩
            rw [and_t, Nat.zero_testBit]
            constructor
            · rintro ⟨a, b⟩
              by_cases ek : k = c
              · have hic : i ≠ c := fun g => by rw [ek, g, G.2.2.2.2 c hcn] at a; cases a
                have hi : (sd U (2 ^ c)).testBit i = true := (sd_t hU).mpr ⟨b, Bool.eq_false_iff.mpr (fun g => hic (pow_t.mp g))⟩
                have := ((sd_t (sd_lt hS1)).mp (and_t.mp (h1 i hi)).1).2
                rw [ek] at a; rw [a] at this; cases this
              · have hk2 : (sd U (2 ^ c)).testBit k = true := (sd_t hU).mpr ⟨hUk, Bool.eq_false_iff.mpr (fun g => ek (pow_t.mp g))⟩
                by_cases ei : i = c
                · have := ((sd_t (sd_lt hS1)).mp (and_t.mp (h1 k hk2)).1).2
                  rw [ei] at a
                  rw [gr_sym G hk a] at this; cases this
                · have hi : (sd U (2 ^ c)).testBit i = true := (sd_t hU).mpr ⟨b, Bool.eq_false_iff.mpr (fun g => ei (pow_t.mp g))⟩
                  have hz := h2 k hk hk2
                  have : (nb k &&& sd U (2 ^ c)).testBit i = true := and_t.mpr ⟨a, hi⟩
                  rw [hz] at this; simp at this
            · intro g; cases g
          · rintro ⟨h1, h2⟩
            refine ⟨fun i hi => and_t.mpr ⟨?_, h1 i hi⟩, fun k hk hUk => eq_of_bits (fun i => ?_)⟩
            · obtain ⟨a, b⟩ := (sd_t hU).mp hi
              refine (sd_t (sd_lt hS1)).mpr ⟨(sd_t hS1).mpr ⟨hUS i a, b⟩, Bool.eq_false_iff.mpr (fun g => ?_)⟩
              have hz := h2 c hcn hUc
              have : (nb c &&& U).testBit i = true := and_t.mpr ⟨g, a⟩
              rw [hz] at this; simp at this
            · rw [and_t, Nat.zero_testBit]
              constructor
              · rintro ⟨a, b⟩
                have hz := h2 k hk ((sd_t hU).mp hUk).1
                have : (nb k &&& U).testBit i = true := and_t.mpr ⟨a, ((sd_t hU).mp b).1⟩
                rw [hz] at this; simp at this
              · intro g; cases g
        rw [hsd, sgZ_one hU hc hUc]
        by_cases g1 : sd U (2 ^ c) &&& (X ||| (2 ^ c - 1)) = sd U (2 ^ c)
        · rw [if_pos (show true = true ∧ X.testBit c = false ∧ _ from ⟨rfl, hcc.2, g1⟩)]
          by_cases g2 : apartN n nb U = true
          · rw [if_pos (hiff.mpr ⟨g1, g2⟩), if_pos g2]; grind
          · rw [if_neg (fun g => g2 (hiff.mp g).2), if_neg g2]
        · rw [if_neg (fun g => g1 (hiff.mp g).1), if_neg (fun g => g1 g.2.2)]
    · rw [if_neg hcc, Su_congr (g := fun _ => 0) (fun U hU e => if_neg (fun g => hcc ⟨sub_t.mp e _ g.1, g.2.1⟩)), Su_0]
  rw [Sg_congr 10 hc, ← Su_Sg]
  -- each set once
  have e1 : Su S (fun U => Sg (fun c => if (U.testBit c = true ∧ X.testBit c = false ∧ sd U (2 ^ c) &&& (X ||| (2 ^ c - 1)) = sd U (2 ^ c)) then (if apartN n nb U = true then (-1) * (sgZ U * dzN n nb (sd S U)) else 0) else 0) 10) = Su S (fun U => if U &&& X = U then 0 else (if apartN n nb U = true then (-1) * (sgZ U * dzN n nb (sd S U)) else 0)) := by
    refine Su_congr (fun U hU e => ?_)
    try dsimp only
    by_cases hUX : U &&& X = U
    · rw [if_pos hUX, Sg_congr 10 (g := fun _ => 0) (fun c _ => if_neg (fun g => ?_)), Sg_0]
      have := sub_t.mp hUX c g.1
      rw [g.2.1] at this; cases this
    · rw [if_neg hUX]
      have hW0 : sd U X ≠ 0 := fun g => hUX (sub_t.mpr (fun i hi => by
        refine Classical.byContradiction (fun hno => ?_)
        have : (sd U X).testBit i = true := (sd_t hU).mpr ⟨hi, Bool.eq_false_iff.mpr hno⟩
        rw [g] at this; simp at this))
      obtain ⟨w1, w2, w3⟩ := hi_ok (sd U X) (sd_lt hU) hW0
      obtain ⟨u1, u2⟩ := (sd_t hU).mp w1
      rw [Sg_one (l := lastN 10 (sd U X)) 10 w2 (fun c hc2 hne => if_neg (fun g => ?_))]
      · refine if_pos ⟨u1, u2, sub_t.mpr (fun i hi => ?_)⟩
        obtain ⟨a, b⟩ := (sd_t hU).mp hi
        rw [or_t, all_t]
        cases hXi : X.testBit i with
        | true => exact Or.inl rfl
        | false =>
          right
          have h5 := w3 i (bit_lt10 hU a) ((sd_t hU).mpr ⟨a, hXi⟩)
          have h6 : i ≠ lastN 10 (sd U X) := fun g => by rw [← g, pow_t.mpr rfl] at b; cases b
          omega
      · have h5 := w3 c hc2 ((sd_t hU).mpr ⟨g.1, g.2.1⟩)
        have h6 : (sd U (2 ^ c)).testBit (lastN 10 (sd U X)) = true := (sd_t hU).mpr ⟨u1, Bool.eq_false_iff.mpr (fun g2 => hne (pow_t.mp g2).symm)⟩
        rcases or_t.mp (sub_t.mp g.2.2 _ h6) with g2 | g2
        · rw [u2] at g2; cases g2
        · have := all_t.mp g2; omega
  rw [e1]
  have hz := sum_zero (n := n) (nb := nb) hS1 h0
  have e2 : Su S (fun t => if apartN n nb t = true then sgZ t * dzN n nb (sd S t) else 0) = Su S (fun T => (if T &&& X = T ∧ apartN n nb T = true then sgZ T * dzN n nb (sd S T) else 0) + (-1) * (if T &&& X = T then 0 else (if apartN n nb T = true then (-1) * (sgZ T * dzN n nb (sd S T)) else 0))) := by
    refine Su_congr (fun T hT e => ?_)
    try dsimp only
    by_cases c1 : T &&& X = T <;> by_cases c2 : apartN n nb T = true
    · rw [if_pos c2, if_pos ⟨c1, c2⟩, if_pos c1]; omega
    · rw [if_neg c2, if_neg (fun g => c2 g.2), if_pos c1]; rfl
    · rw [if_pos c2, if_neg (fun g => c1 g.1), if_neg c1, if_pos c2]; omega
    · rw [if_neg c2, if_neg (fun g => c1 g.1), if_neg c1, if_neg c2]; rfl
  rw [e2, Su_add, Su_mul] at hz
  unfold NZ
  omega
end GG
