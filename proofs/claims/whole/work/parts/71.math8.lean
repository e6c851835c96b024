/-! sets that join, and products -/
theorem sub_t {t s : Nat} : t &&& s = t ↔ subS t s := ⟨subS_of, subS_and⟩
theorem bit_and0 {t l : Nat} : t &&& 2 ^ l = 0 ↔ t.testBit l = false := by
  constructor
  · intro h
    cases hb : t.testBit l with
    | false => rfl
    | true =>
      have : (t &&& 2 ^ l).testBit l = true := and_t.mpr ⟨hb, pow_t.mpr rfl⟩
      rw [h] at this; simp at this
  · intro h
    refine eq_of_bits (fun i => ?_)
    rw [and_t, Nat.zero_testBit]
    constructor
    · rintro ⟨h1, h2⟩; rw [pow_t.mp h2, h] at h1; cases h1
    · intro h3; cases h3
theorem rest_t {t s : Nat} (hs : s < 1024) (h0 : s ≠ 0) : t &&& (s &&& (s - 1)) = t ↔ t &&& s = t ∧ t.testBit (low s) = false := by
  rw [sub_t, sub_t]
  constructor
  · intro h
    refine ⟨fun i hi => (lowrest_t hs h0).mpr (Or.inr (h i hi)), Bool.eq_false_iff.mpr (fun hb => ?_)⟩
    have h1 := h _ hb
    rw [lowrest s hs h0] at h1
    have := ((sd_t hs).mp h1).2
    rw [pow_t.mpr rfl] at this; cases this
  · rintro ⟨h1, h2⟩ i hi
    rcases (lowrest_t hs h0).mp (h1 i hi) with e | e
    · rw [e, h2] at hi; cases hi
    · exact e
theorem Su_rest {α : Type} [Lean.Grind.CommRing α] {s : Nat} (hs : s < 1024) (h0 : s ≠ 0) {f : Nat → α} : Su (s &&& (s - 1)) f = Su s (fun t => if t.testBit (low s) = true then 0 else f t) := by
  refine Sg_congr 1024 (fun t ht => ?_)
  have h := rest_t (t := t) hs h0
  try dsimp only
  by_cases e : t &&& s = t
  · cases hb : t.testBit (low s) with
    | true => rw [if_neg (fun g => by have := (h.mp g).2; rw [hb] at this; cases this), if_pos e, if_pos rfl]
    | false => rw [if_pos (h.mpr ⟨e, hb⟩), if_pos e, if_neg (by decide)]
  · rw [if_neg (fun g => e (h.mp g).1), if_neg e]
theorem sd_sd {s t : Nat} (hs : s < 1024) (h : t &&& s = t) : sd s (sd s t) = t := by
  have ht := sub_t.mp h
  refine eq_of_bits (fun i => ?_)
  rw [sd_t hs]
  constructor
  · rintro ⟨h1, h2⟩
    cases hb : t.testBit i with
    | true => rfl
    | false => rw [(sd_t hs).mpr ⟨h1, hb⟩] at h2; cases h2
  · intro h
    refine ⟨ht i h, ?_⟩
    cases hb : (sd s t).testBit i with
    | false => rfl
    | true => rw [((sd_t hs).mp hb).2] at h; cases h
theorem sd_low {s t : Nat} (hs : s < 1024) (h0 : s ≠ 0) : (sd s t).testBit (low s) = !t.testBit (low s) := by
  rw [sd_bit _ _ _ hs, low_bit hs h0]; simp
theorem sd_eq0 {s t : Nat} (hs : s < 1024) (h : t &&& s = t) : sd s t = 0 ↔ t = s := by
  constructor
  · intro h1; have := sd_sd hs h; rw [h1] at this; rw [← this]
    refine eq_of_bits (fun i => ?_); rw [sd_t hs]; simp
  · intro h1; subst h1
    refine eq_of_bits (fun i => ?_); rw [sd_t hs, Nat.zero_testBit]
    constructor
    · rintro ⟨a, b⟩; rw [a] at b; cases b
    · intro h; cases h
theorem add_same {x y z : Int64} (h : y = z) : x + y = x + z := by rw [h]
section GG
variable {n : Nat} {nb : Nat → Nat}
theorem whol_sum {f : Nat → Int64} {s : Nat} (h0 : 0 < s) (hs : s < 1024) : wholG n nb f s = (1 <<< ((nI (edgesN n nb s)).toInt64 &&& 63)) + Su s (fun t => if t.testBit (low s) = true ∧ t ≠ s then - (f t <<< ((nI (edgesN n nb (sd s t))).toInt64 &&& 63)) else 0) := by
  unfold wholG
  have e1 : (fun (t : Nat) (a : Int64) => a - (if ¬ t &&& 2 ^ low s = 0 then f t <<< ((nI (edgesN n nb (sd s t))).toInt64 &&& 63) else 0)) = (fun t a => a + (if t.testBit (low s) = true then - (f t <<< ((nI (edgesN n nb (sd s t))).toInt64 &&& 63)) else 0)) := by
    funext t a
    cases hb : t.testBit (low s) with
    | false => rw [if_neg (fun g => g (bit_and0.mpr hb)), if_neg (by decide)]; grind
    | true => rw [if_pos (fun g => by rw [bit_and0.mp g] at hb; cases hb), if_pos rfl]; grind
  rw [e1, subN_A, subA_sum hs _ _ (by rw [Nat.and_assoc, Nat.and_self])]
  refine add_same ?_
  refine Sg_congr 1024 (fun t ht => ?_)
  try dsimp only
  have hle : (s - 1) &&& s ≤ s - 1 := Nat.and_le_left
  by_cases e : t &&& s = t
  · rw [if_pos e]
    have hts : t ≤ s := by rw [← e]; exact Nat.and_le_right
    by_cases es : t = s
    · rw [if_neg (fun g => by omega), if_neg (fun g => g.2 es)]
    · by_cases e0 : t = 0
      · rw [if_neg (fun g => g.1 e0), if_neg (fun g => by rw [e0] at g; simp at g)]
      · rw [if_pos ⟨e0, e, dn_max 10 s s t hs (Nat.and_self s) e (by omega)⟩]
        cases hb : t.testBit (low s) with
        | true => rw [if_pos rfl, if_pos ⟨rfl, es⟩]
        | false => rw [if_neg (by decide), if_neg (fun g => absurd g.1 (by decide))]
  · rw [if_neg (fun g => e g.2.1), if_neg e]
theorem join_sum {f : Nat → Int64} {s : Nat} (h0 : 0 < s) (hs : s < 1024) : joinC nb f s = (1 <<< ((nI (inN nb s)).toInt64 &&& 63)) + Su s (fun l => if l.testBit (low s) = false ∧ l ≠ 0 then - (f (sd s l) <<< ((nI (inN nb l)).toInt64 &&& 63)) else 0) := by
  unfold joinC
  have hrl : s &&& (s - 1) < 1024 := and_lt hs
  have e1 : (fun (t : Nat) (a : Int64) => a - f (sd s t) <<< ((nI (inN nb t)).toInt64 &&& 63)) = (fun t a => a + - (f (sd s t) <<< ((nI (inN nb t)).toInt64 &&& 63))) := by
    funext t a; grind
  rw [e1, subN_A, subA_sum hrl _ _ (Nat.and_self _)]
  refine add_same ?_
  refine Sg_congr 1024 (fun t ht => ?_)
  try dsimp only
  have h := rest_t (t := t) hs (by omega)
  by_cases e : t &&& s = t
  · rw [if_pos e]
    by_cases c : t.testBit (low s) = false ∧ t ≠ 0
    · have h1 := h.mpr ⟨e, c.1⟩
      rw [if_pos ⟨c.2, h1, by rw [← h1]; exact Nat.and_le_right⟩, if_pos c]
    · rw [if_neg c, if_neg (fun g => c ⟨(h.mp g.2.1).2, g.1⟩)]
  · rw [if_neg (fun g => e (h.mp g.2.1).1), if_neg e]
theorem join_same (G : GR n nb) {f : Nat → Int64} {s : Nat} (h0 : 0 < s) (hs : s < 2 ^ n) : joinC nb f s = wholG n nb f s := by
  have hp := pow10 G.1
  rw [join_sum h0 (by omega), whol_sum h0 (by omega), edges_in G hs, ← Su_compl (by omega) (f := fun l => if l.testBit (low s) = false ∧ l ≠ 0 then - (f (sd s l) <<< ((nI (inN nb l)).toInt64 &&& 63)) else 0)]
  refine add_same ?_
  refine Su_congr (fun t ht e => ?_)
  try dsimp only
  have h1 := sd_eq0 (show s < 1024 by omega) e
  have h2 := sd_low (t := t) (show s < 1024 by omega) (by omega)
  have h3 := sd_sd (show s < 1024 by omega) e
  have h4 := edges_in G (s := sd s t) (Nat.lt_of_le_of_lt sd_le hs)
  rw [h4, h3, h2]
  by_cases c : t.testBit (low s) = true ∧ t ≠ s
  · rw [if_pos c, if_pos ⟨by rw [c.1]; rfl, fun g => c.2 (h1.mp g)⟩]
  · rw [if_neg c, if_neg (fun g => c ⟨by have := g.1; revert this; cases t.testBit (low s) <;> simp, fun g2 => g.2 (h1.mpr g2)⟩)]
theorem whol_dep {f f' : Nat → Int64} {s : Nat} (h0 : 0 < s) (hs : s < 1024) (h : ∀ t, 1 ≤ t → t < s → f t = f' t) : wholG n nb f s = wholG n nb f' s := by
  rw [whol_sum h0 hs, whol_sum h0 hs]
  refine add_same ?_
  refine Su_congr (fun t ht e => ?_)
  try dsimp only
  by_cases c : t.testBit (low s) = true ∧ t ≠ s
  · have hts : t ≤ s := by rw [← e]; exact Nat.and_le_right
    have ht0 : t ≠ 0 := fun g => by rw [g] at c; simp at c
    rw [if_pos c, if_pos c, h t (by omega) (by have := c.2; omega)]
  · rw [if_neg c, if_neg c]
theorem join_eq (G : GR n nb) {g g' : Nat → Int64} {s : Nat} (h1 : 1 ≤ s) (hs : s < 2 ^ n) : tabN (joinC nb) n g s = tabN (wholG n nb) n g' s := by
  have hp := pow10 G.1
  refine tab_eq2 (G := joinC nb) (G' := wholG n nb) 1 (Nat.le_refl _) (fun h => absurd h (by decide)) (fun f f' t g1 g2 g3 => ?_) (fun f t g1 g2 => ?_) s h1 hs
  · exact whol_dep g1 (by omega) g3
  · exact join_same G g1 g2
end GG
/-! products -/
theorem pull_sum {h f : Nat → Int64} {s : Nat} (hs : s < 1024) : pullG h f s = Su s (fun t => if t.testBit (low s) = true ∧ t ≠ 0 then h t * f (sd s t) else 0) := by
  unfold pullG
  rw [subN_A, subA_sum hs _ _ (Nat.and_self _)]
  have e : Su s (fun t => if t.testBit (low s) = true ∧ t ≠ 0 then h t * f (sd s t) else 0) = Sg (fun t => if t ≠ 0 ∧ t &&& s = t ∧ t ≤ s then (if t.testBit (low s) then h t * f (sd s t) else 0) else 0) 1024 := by
    refine Sg_congr 1024 (fun t ht => ?_)
    try dsimp only
    by_cases e : t &&& s = t
    · rw [if_pos e]
      have hts : t ≤ s := by rw [← e]; exact Nat.and_le_right
      by_cases e0 : t = 0
      · subst e0; simp
      · rw [if_pos (show t ≠ 0 ∧ t &&& s = t ∧ t ≤ s from ⟨e0, e, hts⟩)]
        cases hb : t.testBit (low s) with
        | true => simp [e0]
        | false => simp
    · rw [if_neg e, if_neg (show ¬ (t ≠ 0 ∧ t &&& s = t ∧ t ≤ s) from fun g => e g.2.1)]
  rw [e]
  grind
theorem prod_pull {h f : Nat → Int64} {s : Nat} : prodG h f s = pullG h f s := by
  unfold prodG pullG
  congr 1
  funext t a
  cases hb : t.testBit (low s) with
  | false => rw [if_neg (fun g => g (bit_and0.mpr hb)), if_neg (by decide)]
  | true => rw [if_pos (fun g => by rw [bit_and0.mp g] at hb; cases hb), if_pos rfl]
theorem for_sum {T f : Nat → Int64} {s : Nat} (h0 : 0 < s) (hs : s < 1024) : forC T f s = Su s (fun t => if t.testBit (low s) = true then T t * f (sd s t) else 0) := by
  unfold forC sub0N
  have hrl : s &&& (s - 1) < 1024 := and_lt hs
  have h1 := subA_all (s := s &&& (s - 1)) hrl (f := fun t => T (sd s t) * f t) (0 : Int64)
  have h2 : (fun (t : Nat) (a : Int64) => a + T (sd s t) * f t) 0 (subN (fun t a => a + T (sd s t) * f t) (s &&& (s - 1)) (s &&& (s - 1)) 0) = subA (fun t a => a + T (sd s t) * f t) (s &&& (s - 1)) (s &&& (s - 1)) 0 + T (sd s 0) * f 0 := by
    rw [subN_A]
  rw [h2, h1, Su_rest hs (by omega), ← Su_compl hs (f := fun t => if t.testBit (low s) = true then 0 else T (sd s t) * f t)]
  have e : Su s (fun t => if (sd s t).testBit (low s) = true then 0 else T (sd s (sd s t)) * f (sd s t)) = Su s (fun t => if t.testBit (low s) = true then T t * f (sd s t) else 0) := by
    refine Su_congr (fun t ht e => ?_)
    try dsimp only
    rw [sd_low hs (by omega), sd_sd hs e]
    cases t.testBit (low s) <;> rfl
  rw [e]
  grind
/-- forests of both sides, where the trees agree -/
theorem for_eq {n : Nat} (hn : n ≤ 10) {T h g g' : Nat → Int64} (h0 : g 0 = g' 0) (hT : ∀ t, 0 < t → t < 2 ^ n → T t = h t) {s : Nat} (hs : s < 2 ^ n) : tabN (forC T) n g s = tabN (prodG h) n g' s := by
  have hp := pow10 hn
  refine tab_eq2 0 (by omega) (fun _ => h0) (fun f f' s h1 h2 hf => ?_) (fun f s h1 h2 => ?_) s (by omega) hs
  · rw [prod_pull, prod_pull, pull_sum (by omega), pull_sum (by omega)]
    refine Su_congr (fun t ht e => ?_)
    try dsimp only
    by_cases c : t.testBit (low s) = true ∧ t ≠ 0
    · rw [if_pos c, if_pos c, hf _ (by omega) (sd_lss (by omega) (low_bit (by omega) (by omega)) c.1)]
    · rw [if_neg c, if_neg c]
  · rw [prod_pull, pull_sum (by omega), for_sum h1 (by omega)]
    refine Su_congr (fun t ht e => ?_)
    try dsimp only
    have hts : t ≤ s := by rw [← e]; exact Nat.and_le_right
    cases hb : t.testBit (low s) with
    | true =>
      have ht0 : t ≠ 0 := fun g => by rw [g] at hb; simp at hb
      rw [if_pos rfl, if_pos ⟨rfl, ht0⟩, hT t (by omega) (by omega)]
    | false => rw [if_neg (by decide), if_neg (fun g => absurd g.1 (by decide))]
