/-! colourings: what the class pushes, the reference pulls -/
theorem subA_hom {α β : Type} {f : Nat → α → α} {g : Nat → β → β} {φ : α → β} {s : Nat} (h : ∀ t x, φ (f t x) = g t (φ x)) : ∀ t x, φ (subA f s t x) = subA g s t (φ x) := by
  intro t x
  unfold subA
  suffices hh : ∀ k t x, φ (subAF f s k t x) = subAF g s k t (φ x) from hh _ _ _
  intro k
  induction k with
  | zero => intro t x; rfl
  | succ k ih =>
    intro t x
    simp only [subAF]
    split
    · rfl
    · rw [ih, h]
def Lf (N : Nat) (f h : Nat → Int64) : Int64 := Sg (fun U => f U * h U) N
theorem Lf_upd {N : Nat} {f h : Nat → Int64} {i : Nat} {v : Int64} (hi : i < N) : Lf N (vp_updL f i v) h = Lf N f h + (v - f i) * h i := by
  unfold Lf
  have e : Sg (fun U => vp_updL f i v U * h U) N = Sg (fun U => f U * h U + (if U = i then (v - f i) * h i else 0)) N := by
    refine Sg_congr N (fun U hU => ?_)
    try dsimp only
    by_cases e : U = i
    · subst e; rw [vpu_s, if_pos rfl]; grind
    · rw [vpu_n e, if_neg e]; grind
  rw [e, Sg_add, Sg_one (l := i) (f := fun U => if U = i then (v - f i) * h i else 0) N hi (fun k _ hne => if_neg hne), if_pos rfl]
theorem Lf_zero {N : Nat} {f h : Nat → Int64} (hf : ∀ U, U < N → f U = 0) : Lf N f h = 0 := by
  unfold Lf
  rw [Sg_congr N (g := fun _ => 0) (fun U hU => by rw [hf U hU]; grind), Sg_0]
/-- the sets left behind by one class of s -/
def Hc (nb : Nat → Nat) (h : Nat → Int64) (s : Nat) : Int64 := Su (frN nb s) (fun t => if inN nb t = 0 then h (sd (s &&& (s - 1)) t) else 0)
theorem Lf_tak {N : Nat} {nb : Nat → Nat} {f h : Nat → Int64} {s : Nat} {ways : Int64} (hs : s < N) (hN : N ≤ 1024) : Lf N (takN nb s ways f) h = Lf N f h + ways * Hc nb h s := by
  have hfr : frN nb s < 1024 := Nat.lt_of_le_of_lt sd_le (Nat.lt_of_le_of_lt Nat.and_le_left (by omega))
  have hrl : s &&& (s - 1) ≤ s := Nat.and_le_left
  have hstep : ∀ t x, Lf N (takS nb (s &&& (s - 1)) ways t x) h = Lf N x h + ways * (if inN nb t = 0 then h (sd (s &&& (s - 1)) t) else 0) := by
    intro t x
    unfold takS
    split
    · rw [Lf_upd (Nat.lt_of_le_of_lt sd_le (by omega))]; grind
    · grind
  unfold takN
  rw [hstep, subA_hom (φ := fun x => Lf N x h) (g := fun t a => a + ways * (if inN nb t = 0 then h (sd (s &&& (s - 1)) t) else 0)) hstep]
  have h1 := subA_all (s := frN nb s) hfr (f := fun t => ways * (if inN nb t = 0 then h (sd (s &&& (s - 1)) t) else 0)) (Lf N f h)
  rw [h1, Su_mul]
  rfl
theorem col_stage {nb : Nat → Nat} {N : Nat} (hN : N ≤ 1024) {c : Int64} {f g : Nat → Int64} (h0 : f 0 = 0) (h : Nat → Int64) : ∀ j, j + 1 ≤ N → (∀ U, U < N → (forN (colS nb c) j (f, g)).1 U = if U ≤ j then 0 else f U) ∧ Lf N (forN (colS nb c) j (f, g)).2 h = Lf N g h + c * Sg (fun k => f (k + 1) * Hc nb h (k + 1)) j := by
  intro j
  induction j with
  | zero =>
    intro hj
    refine ⟨fun U hU => ?_, ?_⟩
    · by_cases e : U = 0
      · subst e; rw [if_pos (Nat.le_refl _)]; exact h0
      · rw [if_neg (by omega)]; rfl
    · show Lf N g h = Lf N g h + c * (0 : Int64)
      grind
  | succ j ih =>
    intro hj
    obtain ⟨i1, i2⟩ := ih (by omega)
    generalize hq : forN (colS nb c) j (f, g) = q at i1 i2
    have e : forN (colS nb c) (j + 1) (f, g) = colS nb c j q := by rw [← hq]; rfl
    have hfj : q.1 (j + 1) = f (j + 1) := by rw [i1 (j + 1) (by omega), if_neg (by omega)]
    rw [e, Sg_s]
    unfold colS
    split
    · rename_i hz
      refine ⟨fun U hU => ?_, ?_⟩
      · rw [i1 U hU]
        by_cases e1 : U ≤ j
        · rw [if_pos e1, if_pos (by omega)]
        · by_cases e2 : U = j + 1
          · rw [if_neg e1, if_pos (by omega), e2, ← hfj, hz]
          · rw [if_neg e1, if_neg (by omega)]
      · rw [i2, ← hfj, hz]; grind
    · refine ⟨fun U hU => ?_, ?_⟩
      · show vp_updL q.1 (j + 1) 0 U = _
        by_cases e2 : U = j + 1
        · rw [e2, vpu_s, if_pos (Nat.le_refl _)]
        · rw [vpu_n e2, i1 U hU]
          by_cases e1 : U ≤ j
          · rw [if_pos e1, if_pos (by omega)]
          · rw [if_neg e1, if_neg (by omega)]
      · show Lf N (takN nb (j + 1) (q.1 (j + 1) * c) q.2) h = _
        rw [Lf_tak (by omega) hN, i2, hfj]; grind
theorem Lf_congr {N : Nat} {f f' h h' : Nat → Int64} (h1 : ∀ U, U < N → f U = f' U) (h2 : ∀ U, U < N → h U = h' U) : Lf N f h = Lf N f' h' := Sg_congr N (fun U hU => by rw [h1 U hU, h2 U hU])
/-- one class more: the row left is empty, the new one is the old pushed on -/
theorem colC_ok {n : Nat} (hn : n ≤ 10) {nb : Nat → Nat} {c : Int64} {q : (Nat → Int64) × (Nat → Int64)} (hz : ∀ U, U < 2 ^ n → q.2 U = 0) : (∀ U, U < 2 ^ n → (colC n nb c q).1 U = 0) ∧ ∀ h, Lf (2 ^ n) (colC n nb c q).2 h = c * Sg (fun k => q.1 (k + 1) * Hc nb h (k + 1)) (2 ^ n - 1) := by
  have hp := pow10 hn
  have hp1 : 1 ≤ 2 ^ n := Nat.one_le_two_pow
  unfold colC
  have key := fun h => col_stage (nb := nb) (N := 2 ^ n) hp (c := c) (f := vp_updL q.1 0 0) (g := q.2) vpu_s h (2 ^ n - 1) (by omega)
  refine ⟨fun U hU => ?_, fun h => ?_⟩
  · rw [(key (fun _ => 0)).1 U hU, if_pos (by omega)]
  · rw [(key h).2, Lf_zero hz, Sg_congr (2 ^ n - 1) (g := fun k => q.1 (k + 1) * Hc nb h (k + 1)) (fun k hk => by rw [vpu_n (by omega)])]
    grind
theorem xor_t {a k i : Nat} : (a ^^^ 2 ^ k).testBit i = (if i = k then !a.testBit i else a.testBit i) := by
  rw [Nat.testBit_xor]
  by_cases e : i = k
  · rw [if_pos e, pow_t.mpr e]; cases a.testBit i <;> rfl
  · rw [if_neg e, show Nat.testBit (2 ^ k) i = false from Bool.eq_false_iff.mpr (fun g => e (pow_t.mp g))]; simp
/-- the subsets with the lowest vertex -/
theorem Su_low {α : Type} [Lean.Grind.CommRing α] {s : Nat} (hs : s < 1024) (h0 : s ≠ 0) {F : Nat → α} : Su s (fun t => if t.testBit (low s) = true then F t else 0) = Su (s &&& (s - 1)) (fun w => F (w ||| 2 ^ low s)) := by
  have hl := low_lt hs h0
  have hpl : 2 ^ low s < 1024 := pow_lt hl
  have hx : ∀ t, t < 1024 → t ^^^ 2 ^ low s < 1024 := fun t ht => Nat.xor_lt_two_pow (n := 10) ht hpl
  unfold Su
  rw [← Sg_bij (f := fun t => if t &&& s = t then (if t.testBit (low s) = true then F t else 0) else 0) (p := fun t => t ^^^ 2 ^ low s) hx (fun t _ => by rw [Nat.xor_assoc, Nat.xor_self, Nat.xor_zero])]
  refine Sg_congr 1024 (fun t ht => ?_)
  try dsimp only
  have hb : (t ^^^ 2 ^ low s).testBit (low s) = !t.testBit (low s) := by rw [xor_t, if_pos rfl]
  have hr := rest_t (t := t) hs h0
  cases htl : t.testBit (low s) with
  | true =>
    rw [hb, htl, if_neg (show ¬ t &&& (s &&& (s - 1)) = t from fun g => by have := (hr.mp g).2; rw [htl] at this; cases this)]
    split
    · rfl
    · rfl
  | false =>
    have ho : t ^^^ 2 ^ low s = t ||| 2 ^ low s := by
      refine eq_of_bits (fun i => ?_)
      rw [xor_t, or_t, pow_t]
      by_cases e : i = low s
      · subst e; rw [if_pos rfl, htl]; simp
      · rw [if_neg e]; simp [e]
    have hs2 : (t ^^^ 2 ^ low s) &&& s = t ^^^ 2 ^ low s ↔ t &&& (s &&& (s - 1)) = t := by
      rw [ho, hr, sub_t, sub_t]
      constructor
      · intro h; exact ⟨fun i hi => h i (or_t.mpr (Or.inl hi)), htl⟩
      · rintro ⟨h, _⟩ i hi
        rcases or_t.mp hi with g | g
        · exact h i g
        · rw [pow_t.mp g]; exact low_bit hs h0
    rw [hb, htl]
    by_cases e : t &&& (s &&& (s - 1)) = t
    · rw [if_pos e, if_pos (hs2.mpr e), if_pos (by decide), ho]
    · rw [if_neg e, if_neg (fun g => e (hs2.mp g))]
section GG
variable {n : Nat} {nb : Nat → Nat}
theorem low_or {s w : Nat} (hs : s < 1024) (h0 : s ≠ 0) (hw : subS w (s &&& (s - 1))) : low (w ||| 2 ^ low s) = low s ∧ (w ||| 2 ^ low s) &&& ((w ||| 2 ^ low s) - 1) = w ∧ w ||| 2 ^ low s ≠ 0 ∧ w ||| 2 ^ low s < 1024 := by
  have hl := low_lt hs h0
  have hpl : 2 ^ low s < 1024 := pow_lt hl
  have hwl : w < 1024 := Nat.lt_of_le_of_lt (subS_le hw) (and_lt hs)
  have hol : w ||| 2 ^ low s < 1024 := or_lt hwl hpl
  have hbit : (w ||| 2 ^ low s).testBit (low s) = true := or_t.mpr (Or.inr (pow_t.mpr rfl))
  have hne : w ||| 2 ^ low s ≠ 0 := fun g => by rw [g] at hbit; simp at hbit
  have hsub : ∀ i, (w ||| 2 ^ low s).testBit i = true → s.testBit i = true := fun i hi => by
    rcases or_t.mp hi with g | g
    · exact (lowrest_t hs h0).mpr (Or.inr (hw i g))
    · rw [pow_t.mp g]; exact low_bit hs h0
  have hlow : low (w ||| 2 ^ low s) = low s := by
    rcases Nat.lt_trichotomy (low (w ||| 2 ^ low s)) (low s) with g | g | g
    · have h1 := low_min hs _ g
      rw [hsub _ (low_bit hol hne)] at h1; cases h1
    · exact g
    · have h1 := low_min hol _ g
      rw [hbit] at h1; cases h1
  have hwn : w.testBit (low s) = false := by
    refine Bool.eq_false_iff.mpr (fun g => ?_)
    have h1 := hw _ g
    rw [lowrest s hs h0] at h1
    have := ((sd_t hs).mp h1).2
    rw [pow_t.mpr rfl] at this; cases this
  refine ⟨hlow, ?_, hne, hol⟩
  rw [lowrest _ hol hne, hlow]
  refine eq_of_bits (fun i => ?_)
  rw [sd_t hol, or_t, pow_t]
  constructor
  · rintro ⟨h1 | h1, h2⟩
    · exact h1
    · rw [h1, pow_t.mpr rfl] at h2; cases h2
  · intro h1
    refine ⟨Or.inl h1, Bool.eq_false_iff.mpr (fun g => ?_)⟩
    rw [pow_t.mp g, hwn] at h1; cases h1
theorem pop_0 {x : Nat} (hx : x < 1024) : pop x = 0 ↔ x = 0 := by
  constructor
  · intro h
    refine Classical.byContradiction (fun h3 => ?_)
    have : pop 0 < pop x := pop_smono hx (subS_0 _) (fun e => h3 e.symm)
    omega
  · intro h; rw [h]; decide
/-- one class with the lowest vertex, on both sides -/
theorem Hc_pull (G : GR n nb) {other T : Nat → Int64} (ho : ∀ t, t < 2 ^ n → other t = if ¬ t = 0 ∧ apartN n nb t = true then 1 else 0) {s : Nat} (h0 : 0 < s) (hs : s < 2 ^ n) : Hc nb T s = pullG other T s := by
  have hn := G.1
  have hp := pow10 hn
  have hs1 : s < 1024 := by omega
  have hrl : s &&& (s - 1) < 1024 := and_lt hs1
  have hrs : s &&& (s - 1) ≤ s := Nat.and_le_left
  rw [pull_sum hs1]
  have e1 : Su s (fun t => if t.testBit (low s) = true ∧ t ≠ 0 then other t * T (sd s t) else 0) = Su s (fun t => if t.testBit (low s) = true then other t * T (sd s t) else 0) := by
    refine Su_congr (fun t ht e => ?_)
    try dsimp only
    cases hb : t.testBit (low s) with
    | true =>
      have ht0 : t ≠ 0 := fun g => by rw [g] at hb; simp at hb
      rw [if_pos ⟨rfl, ht0⟩, if_pos rfl]
    | false => rw [if_neg (fun g => absurd g.1 (by decide)), if_neg (by decide)]
  rw [e1, Su_low hs1 (by omega)]
  unfold Hc Su
  refine Sg_congr 1024 (fun w hw => ?_)
  try dsimp only
  have hfr : w &&& frN nb s = w ↔ w &&& (s &&& (s - 1)) = w ∧ nb (low s) &&& w = 0 := by
    unfold frN
    rw [sub_t, sub_t]
    constructor
    · intro h
      refine ⟨fun i hi => ((sd_t hrl).mp (h i hi)).1, eq_of_bits (fun i => ?_)⟩
      rw [and_t, Nat.zero_testBit]
      constructor
      · rintro ⟨a, b⟩; have := ((sd_t hrl).mp (h i b)).2; rw [a] at this; cases this
      · intro h; cases h
    · rintro ⟨h1, h2⟩ i hi
      refine (sd_t hrl).mpr ⟨h1 i hi, Bool.eq_false_iff.mpr (fun g => ?_)⟩
      have : (nb (low s) &&& w).testBit i = true := and_t.mpr ⟨g, hi⟩
      rw [h2] at this; simp at this
  by_cases hwr : w &&& (s &&& (s - 1)) = w
  · rw [if_pos hwr]
    obtain ⟨l1, l2, l3, l4⟩ := low_or hs1 (by omega) (sub_t.mp hwr)
    have hwle : w ≤ s := by rw [← hwr]; exact Nat.le_trans Nat.and_le_right hrs
    have hln := bit_ltn hs (low_bit hs1 (by omega))
    have hol : w ||| 2 ^ low s < 2 ^ n := or_ltn (by omega) hln
    rw [ho _ hol]
    have hin : inN nb (w ||| 2 ^ low s) = inN nb w + pop (nb (low s) &&& w) := by rw [in_s l4 l3, l1, l2]
    have hap := apart_in G hol
    have hsd : sd s (w ||| 2 ^ low s) = sd (s &&& (s - 1)) w := by
      rw [lowrest s hs1 (by omega)]
      refine eq_of_bits (fun i => ?_)
      rw [sd_t hs1, sd_t (sd_lt hs1), sd_t hs1]
      constructor
      · rintro ⟨a, b⟩
        refine ⟨⟨a, Bool.eq_false_iff.mpr (fun g => ?_)⟩, Bool.eq_false_iff.mpr (fun g => ?_)⟩
        · rw [or_t.mpr (Or.inr g)] at b; cases b
        · rw [or_t.mpr (Or.inl g)] at b; cases b
      · rintro ⟨⟨a, b⟩, c⟩
        refine ⟨a, Bool.eq_false_iff.mpr (fun g => ?_)⟩
        rcases or_t.mp g with g | g
        · rw [g] at c; cases c
        · rw [g] at b; cases b
    have hpz := pop_0 (x := nb (low s) &&& w) (and_lt_r (by omega))
    rw [hsd]
    by_cases c1 : nb (low s) &&& w = 0
    · rw [if_pos (hfr.mpr ⟨hwr, c1⟩)]
      by_cases c2 : inN nb w = 0
      · rw [if_pos c2, if_pos ⟨l3, hap.mpr (by rw [hin, c2, hpz.mpr c1])⟩]; grind
      · rw [if_neg c2, if_neg (fun g => c2 (by have := hap.mp g.2; omega))]; grind
    · rw [if_neg (fun g => c1 (hfr.mp g).2), if_neg (fun g => c1 (hpz.mp (by have := hap.mp g.2; omega)))]; grind
  · rw [if_neg hwr, if_neg (fun g => hwr (hfr.mp g).1)]
end GG
