/-! cliques, holes, best sets, fewest edges -/
theorem forN_band_t {p : Nat → Bool} {f : Nat → Nat} {i : Nat} : ∀ n a, (forN (fun k c => if p k then c &&& f k else c) n a).testBit i = true ↔ a.testBit i = true ∧ ∀ k, k < n → p k = true → (f k).testBit i = true := by
  intro n a
  induction n with
  | zero => simp [forN]
  | succ n ih =>
    show Nat.testBit (if p n = true then _ else _) i = true ↔ _
    cases hp : p n with
    | true =>
      rw [if_pos rfl, and_t, ih]
      constructor
      · rintro ⟨⟨h1, h2⟩, h3⟩
        refine ⟨h1, fun k hk hpk => ?_⟩
        by_cases e : k = n
        · rw [e]; exact h3
        · exact h2 k (by omega) hpk
      · rintro ⟨h1, h2⟩
        exact ⟨⟨h1, fun k hk => h2 k (by omega)⟩, h2 n (by omega) hp⟩
    | false =>
      rw [if_neg (by decide), ih]
      constructor
      · rintro ⟨h1, h2⟩
        refine ⟨h1, fun k hk hpk => ?_⟩
        by_cases e : k = n
        · rw [e, hp] at hpk; cases hpk
        · exact h2 k (by omega) hpk
      · rintro ⟨h1, h2⟩
        exact ⟨h1, fun k hk => h2 k (by omega)⟩
section GG
variable {n : Nat} {nb : Nat → Nat}
theorem clique_eq (G : GR n nb) {s : Nat} (hs : s < 2 ^ n) : cclN n nb s = cliqueN n nb s := by
  have hn := G.1
  have hp := pow10 hn
  unfold cclN cliqueN
  apply bool_eq
  rw [forN_and_t, Bool.and_eq_true, decide_eq_true_eq, decide_eq_true_eq]
  refine and_congr Iff.rfl ?_
  have hb : ∀ i, (forN (fun k c => if s.testBit k then c &&& (nb k ||| 2 ^ k) else c) n (2 ^ n - 1)).testBit i = true ↔ i < n ∧ ∀ k, k < n → s.testBit k = true → (nb k).testBit i = true ∨ i = k := by
    intro i
    rw [forN_band_t, all_t]
    refine and_congr Iff.rfl ⟨fun h k hk hsk => ?_, fun h k hk hsk => ?_⟩
    · rcases or_t.mp (h k hk hsk) with g | g
      · exact Or.inl g
      · exact Or.inr (pow_t.mp g)
    · rcases h k hk hsk with g | g
      · exact or_t.mpr (Or.inl g)
      · exact or_t.mpr (Or.inr (pow_t.mpr g))
  constructor
  · intro h k hk
    have hmem : ∀ i, s.testBit i = true ↔ i < n ∧ ∀ k, k < n → s.testBit k = true → (nb k).testBit i = true ∨ i = k := fun i => by rw [← hb i, h]
    cases hsk : s.testBit k with
    | true =>
      rw [if_pos rfl]
      refine decide_eq_true (eq_of_bits (fun i => ?_))
      rw [and_t, sd_t (by omega)]
      constructor
      · rintro ⟨h1, h2⟩
        refine ⟨h2, Bool.eq_false_iff.mpr (fun g => ?_)⟩
        rw [pow_t.mp g, G.2.2.2.2 k hk] at h1; cases h1
      · rintro ⟨h1, h2⟩
        refine ⟨?_, h1⟩
        rcases ((hmem i).mp h1).2 k hk hsk with g | g
        · exact g
        · rw [g, pow_t.mpr rfl] at h2; cases h2
    | false =>
      rw [if_neg (by decide)]
      refine decide_eq_true (fun g => ?_)
      have : s.testBit k = true := (hmem k).mpr ⟨hk, fun j hj hsj => Or.inl (by
        rw [← g] at hsj
        exact gr_sym G hk (and_t.mp hsj).1)⟩
      rw [hsk] at this; cases this
  · intro h
    refine eq_of_bits (fun i => ?_)
    rw [hb]
    constructor
    · rintro ⟨h1, h2⟩
      refine Classical.byContradiction (fun hsi => ?_)
      have hf := h i h1
      rw [Bool.eq_false_iff.mpr hsi, if_neg (by decide)] at hf
      refine of_decide_eq_true hf (eq_of_bits (fun j => ?_))
      rw [and_t]
      constructor
      · exact fun g => g.2
      · intro g
        have hj := bit_ltn hs g
        refine ⟨?_, g⟩
        rcases h2 j hj g with g2 | g2
        · exact gr_sym G hj g2
        · rw [g2] at hsi; exact absurd g hsi
    · intro hsi
      refine ⟨bit_ltn hs hsi, fun k hk hsk => ?_⟩
      have hf := h k hk
      rw [hsk, if_pos rfl] at hf
      have he := of_decide_eq_true hf
      by_cases e : i = k
      · exact Or.inr e
      · have : (sd s (2 ^ k)).testBit i = true := (sd_t (by omega)).mpr ⟨hsi, Bool.eq_false_iff.mpr (fun g => e (pow_t.mp g))⟩
        rw [← he] at this
        exact Or.inl (and_t.mp this).1
theorem hole_eq (G : GR n nb) {s : Nat} (hs : s < 2 ^ n) : chlN n nb s = holeN n nb s := by
  have hn := G.1
  have hp := pow10 hn
  unfold chlN holeN chlF
  apply bool_eq
  rw [forN_and_t, Bool.and_eq_true, Bool.and_eq_true, Bool.and_eq_true, Bool.and_eq_true, forN_and_t, decide_eq_true_eq, decide_eq_true_eq, decide_eq_true_eq, decide_eq_true_eq]
  have hw : ¬ s = 0 → (wholeN n nb s = true ↔ pcN nb s = s) := fun h0 => whole_pc G hs h0
  have h00 : 4 ≤ pop s → ¬ s = 0 := fun h g => by rw [g, show pop 0 = 0 by decide] at h; omega
  constructor
  · rintro ⟨⟨h1, h2, h3⟩, _, h4⟩
    exact ⟨⟨by omega, (hw (h00 h1)).mpr h3⟩, h4⟩
  · rintro ⟨⟨h1, h3⟩, h4⟩
    have h5 : ¬ s = 0 := h00 (by omega)
    refine ⟨⟨by omega, ?_, (hw h5).mp h3⟩, rfl, h4⟩
    have h6 : degsN n nb s = 2 * pop s := by
      have e1 : degsN n nb s = Sm (fun k => if s.testBit k then pop (nb k &&& s) else 0) n := rfl
      rw [e1, pop_Sm, ← Sm_mul, Sm_ext (f := fun k => 2 * ch s k) (n := n) 10 hn (fun k g1 g2 => by
        rw [ch_f]
        exact Bool.eq_false_iff.mpr (fun g => by have := bit_ltn hs g; omega))]
      refine Sm_congr n (fun k hk => ?_)
      have h7 := h4 k hk
      cases hb : s.testBit k with
      | true =>
        rw [hb] at h7
        rw [if_pos rfl, ch_t hb]
        simpa using h7
      | false => rw [if_neg (by decide), ch_f hb]
    have h8 := in_Q G s (by omega)
    rw [← degs_Q G hs, h6] at h8
    omega
theorem hole_0 : holeN n nb 0 = false := by
  refine Bool.eq_false_iff.mpr (fun h => ?_)
  unfold holeN at h
  have := (forN_and_t _ _).mp h
  rw [show pop 0 = 0 by decide] at this
  simp at this
theorem holes_eq (G : GR n nb) : cholesN n nb = holesN n nb := by
  have hp1 : 1 ≤ 2 ^ n := Nat.one_le_two_pow
  unfold cholesN holesN
  obtain ⟨N, hN⟩ : ∃ N, 2 ^ n = N + 1 := ⟨2 ^ n - 1, by omega⟩
  rw [show 2 ^ n - 1 = N by omega, hN, forN_first, hole_eq G (by omega), hole_0]
  exact forN_congr2 _ _ (fun k hk x => by rw [hole_eq G (by omega)])
theorem short_eq (G : GR n nb) : cshortN n nb = shortN n nb := by
  have hp1 : 1 ≤ 2 ^ n := Nat.one_le_two_pow
  unfold cshortN shortN
  obtain ⟨N, hN⟩ : ∃ N, 2 ^ n = N + 1 := ⟨2 ^ n - 1, by omega⟩
  rw [show 2 ^ n - 1 = N by omega, hN, forN_first, hole_eq G (by omega), hole_0, if_neg (fun g => absurd g.1 (by decide))]
  exact forN_congr2 _ _ (fun k hk x => by rw [hole_eq G (by omega)])
theorem such_good (G : GR n nb) {w s : Nat} (hs : s < 2 ^ n) : suchN n nb w s = goodN n nb w s := by
  have hn := G.1
  have hp := pow10 hn
  have hp1 : 1 ≤ 2 ^ n := Nat.one_le_two_pow
  have hsl : sd (2 ^ n - 1) s < 2 ^ n := by have := sd_le (a := 2 ^ n - 1) (b := s); omega
  match w with
  | 0 =>
    apply bool_eq
    show decide (inN nb s = 0) = true ↔ apartN n nb s = true
    rw [apart_in G hs, decide_eq_true_eq]
  | 1 =>
    show decide (sd (sd (2 ^ n - 1) s) (rcN nb s) = 0) = nearAllN n nb s
    rw [near_eq G hs]
    apply bool_eq
    rw [decide_eq_true_eq, decide_eq_true_eq]
    constructor
    · intro h
      refine eq_of_bits (fun i => ?_)
      rw [or_t, all_t]
      constructor
      · rintro (g | g)
        · exact bit_ltn hs g
        · obtain ⟨k, k1, k2⟩ := (rc_t s (by omega)).mp g
          exact gr_lt G (bit_ltn hs k1) k2
      · intro hi
        refine Classical.byContradiction (fun hno => ?_)
        have : (sd (sd (2 ^ n - 1) s) (rcN nb s)).testBit i = true := (sd_t (by omega)).mpr ⟨(sd_t (by omega)).mpr ⟨all_t.mpr hi, Bool.eq_false_iff.mpr (fun g => hno (Or.inl g))⟩, Bool.eq_false_iff.mpr (fun g => hno (Or.inr g))⟩
        rw [h] at this; simp at this
    · intro h
      refine eq_of_bits (fun i => ?_)
      rw [sd_t (by omega), sd_t (by omega), Nat.zero_testBit]
      constructor
      · rintro ⟨⟨a, b⟩, c⟩
        rw [← h] at a
        rcases or_t.mp a with g | g
        · rw [g] at b; cases b
        · rw [g] at c; cases c
      · intro g; cases g
  | 2 =>
    apply bool_eq
    show decide (inN nb (sd (2 ^ n - 1) s) = 0) = true ↔ apartN n nb (sd (2 ^ n - 1) s) = true
    rw [apart_in G hsl, decide_eq_true_eq]
  | 3 => exact clique_eq G hs
  | w + 4 =>
    show (decide (pcN nb (sd (2 ^ n - 1) s) = sd (2 ^ n - 1) s) && (decide (¬ sd (2 ^ n - 1) s = 0) || decide (n = 0))) = restN n nb s
    unfold restN
    have hsa : sd (2 ^ n - 1) s = 2 ^ n - 1 - s := sd_all hn hs
    congr 1
    · apply bool_eq
      rw [decide_eq_true_eq]
      by_cases h0 : sd (2 ^ n - 1) s = 0
      · rw [h0]
        exact ⟨fun _ => rfl, fun _ => rfl⟩
      · exact (whole_pc G hsl h0).symm
    · congr 1
      rw [hsa]
      refine decide_eq_decide.mpr ?_
      omega
theorem seek_eq (G : GR n nb) {w : Nat} {W : Nat → Nat} {least : Bool} : ∀ N, N ≤ 2 ^ n → (cbsN (suchN n nb w) W least N).1 = (seekN (goodN n nb w) W least N).2 ∧ cbwN (cbsN (suchN n nb w) W least N) = (seekN (goodN n nb w) W least N).1 := by
  have hp := pow10 G.1
  have key : ∀ N, N ≤ 2 ^ n → (cbsN (suchN n nb w) W least N).1 = (seekN (goodN n nb w) W least N).2 ∧ ((cbsN (suchN n nb w) W least N).1 = -1 → (seekN (goodN n nb w) W least N).1 = -1) ∧ (¬ (cbsN (suchN n nb w) W least N).1 = -1 → (seekN (goodN n nb w) W least N).1 = (cbsN (suchN n nb w) W least N).2) := by
    intro N
    induction N with
    | zero => exact fun _ => ⟨rfl, fun _ => rfl, fun h => absurd rfl h⟩
    | succ N ih =>
      intro hN
      obtain ⟨i1, i2, i3⟩ := ih (by omega)
      generalize hc : cbsN (suchN n nb w) W least N = c at i1 i2 i3
      generalize hr : seekN (goodN n nb w) W least N = r at i1 i2 i3
      have e1 : cbsN (suchN n nb w) W least (N + 1) = cbsS (suchN n nb w) W least N c := by rw [← hc]; rfl
      have e2 : seekN (goodN n nb w) W least (N + 1) = (if goodN n nb w N = true ∧ (r.2 = -1 ∨ (if least = true then nI (W N) < r.1 else r.1 < nI (W N))) then (nI (W N), nI N) else r) := by rw [← hr]; rfl
      rw [e1, e2]
      unfold cbsS
      rw [such_good G (by omega)]
      have hcond : (goodN n nb w N = true ∧ (c.1 = -1 ∨ (if least = true then nI (W N) < c.2 else c.2 < nI (W N)))) ↔ (goodN n nb w N = true ∧ (r.2 = -1 ∨ (if least = true then nI (W N) < r.1 else r.1 < nI (W N)))) := by
        refine and_congr Iff.rfl ?_
        rw [← i1]
        by_cases h : c.1 = -1
        · simp [h]
        · rw [i3 h]
      by_cases h : goodN n nb w N = true ∧ (c.1 = -1 ∨ (if least = true then nI (W N) < c.2 else c.2 < nI (W N)))
      · rw [if_pos h, if_pos (hcond.mp h)]
        exact ⟨rfl, fun g => absurd g (nI_n1 (by omega)), fun _ => rfl⟩
      · rw [if_neg h, if_neg (fun g => h (hcond.mpr g))]
        exact ⟨i1, i2, i3⟩
  intro N hN
  obtain ⟨i1, i2, i3⟩ := key N hN
  refine ⟨i1, ?_⟩
  unfold cbwN
  by_cases h : (cbsN (suchN n nb w) W least N).1 = -1
  · rw [if_pos h, i2 h]
  · rw [if_neg h, i3 h]
end GG
