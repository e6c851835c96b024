/-! fewest edges, the densest core -/
theorem or_half (a b : Nat) : (a ||| b) / 2 = a / 2 ||| b / 2 := by
  apply Nat.eq_of_testBit_eq
  intro i
  rw [Nat.testBit_or, Nat.testBit_div_two, Nat.testBit_div_two, Nat.testBit_div_two, Nat.testBit_or]
theorem or_odd (a b : Nat) : (a ||| b) % 2 = if a % 2 = 1 then 1 else b % 2 := by
  have h := Nat.testBit_or a b 0
  rw [Nat.testBit_zero, Nat.testBit_zero, Nat.testBit_zero] at h
  rcases Nat.mod_two_eq_zero_or_one a with ha | ha <;> rcases Nat.mod_two_eq_zero_or_one b with hb | hb <;> rcases Nat.mod_two_eq_zero_or_one (a ||| b) with hc | hc <;> simp [ha, hb, hc] at h ⊢
theorem up_min : ∀ (w s t u : Nat), t < 2 ^ w → s &&& t = t → u &&& t = t → s < u → (s + 1) ||| t ≤ u
  | 0, s, t, u, hw, hs, hu, hlt => by
    have : t = 0 := by omega
    subst this
    simp
    omega
  | w + 1, s, t, u, hw, hs, hu, hlt => by
    have e2 : 2 ^ (w + 1) = 2 * 2 ^ w := by rw [Nat.pow_succ]; omega
    have a1 := and_half s t
    have a2 := and_odd s t
    rw [hs] at a1 a2
    have b1 := and_half u t
    have b2 := and_odd u t
    rw [hu] at b1 b2
    have c1 := or_half (s + 1) t
    have c2 := or_odd (s + 1) t
    generalize hX : (s + 1) ||| t = X at c1 c2
    rcases Nat.mod_two_eq_zero_or_one s with g | g
    · have ht0 : t % 2 = 0 := by rw [g] at a2; simp at a2; omega
      have e : (s + 1) / 2 = s / 2 := by omega
      have e3 : s / 2 ||| t / 2 = s / 2 := by
        refine eq_of_bits (fun i => ?_)
        rw [or_t]
        constructor
        · rintro (h | h)
          · exact h
          · rw [a1] at h; exact (and_t.mp h).1
        · exact fun h => Or.inl h
      rw [e, e3] at c1
      rw [if_pos (by omega)] at c2
      omega
    · have e : (s + 1) / 2 = s / 2 + 1 := by omega
      have ih := up_min w (s / 2) (t / 2) (u / 2) (by omega) a1.symm b1.symm (by omega)
      rw [e] at c1
      rw [← c1] at ih
      rw [if_neg (by omega)] at c2
      rcases Nat.mod_two_eq_zero_or_one t with gt | gt
      · omega
      · rw [gt] at b2; simp at b2; omega
/-- turns that change nothing -/
theorem forN_skip {α : Type} {g : Nat → α → α} {a : α} : ∀ j, (∀ k, k < j → ∀ x, g k x = x) → forN g j a = a
  | 0, _ => rfl
  | j + 1, h => by
    show g j (forN g j a) = a
    rw [h j (by omega), forN_skip j (fun k hk => h k (by omega))]
theorem forN_split {α : Type} {g : Nat → α → α} : ∀ i j a, forN g (j + i) a = forN (fun k => g (j + k)) i (forN g j a)
  | 0, j, a => rfl
  | i + 1, j, a => by
    show g (j + i) (forN g (j + i) a) = g (j + i) _
    rw [forN_split i j a]
section GG
variable {n : Nat} {nb : Nat → Nat}
def fewG (n : Nat) (nb : Nat → Nat) (t s : Nat) (m : Int32) : Int32 := if (s &&& t = t ∧ wholeN n nb s = true) ∧ (m = -1 ∨ nI (if s = 0 then 0 else pop s - 1) < m) then nI (if s = 0 then 0 else pop s - 1) else m
theorem few_loop (G : GR n nb) {t : Nat} (ht : t < 2 ^ n) (ht0 : ¬ t = 0) : ∀ f s m, s &&& t = t → 2 ^ n ≤ s + f → cfwF n nb t f s m = forN (fun k => fewG n nb t (s + k)) (2 ^ n - s) m
  | 0, s, m, hs, hf => by
    rw [show 2 ^ n - s = 0 by omega]; rfl
  | f + 1, s, m, hs, hf => by
    have hn := G.1
    have hp := pow10 hn
    simp only [cfwF]
    by_cases hsn : s < 2 ^ n
    · rw [if_pos hsn]
      have hs0 : ¬ s = 0 := fun g => ht0 (by rw [g, Nat.zero_and] at hs; exact hs.symm)
      have hstep : fewG n nb t s m = (if pcN nb s = s ∧ (m = -1 ∨ nI (pop s - 1) < m) then nI (pop s - 1) else m) := by
        unfold fewG
        rw [if_neg hs0]
        have hw := whole_pc G hsn hs0
        by_cases c : pcN nb s = s ∧ (m = -1 ∨ nI (pop s - 1) < m)
        · rw [if_pos c, if_pos ⟨⟨hs, hw.mpr c.1⟩, c.2⟩]
        · rw [if_neg c, if_neg (fun g => c ⟨hw.mp g.1.2, g.2⟩)]
      rw [← hstep]
      have hge : s + 1 ≤ (s + 1) ||| t := Nat.left_le_or
      have hx : ((s + 1) ||| t) &&& t = t := by
        refine eq_of_bits (fun i => ?_)
        rw [and_t, or_t]
        exact ⟨fun h => h.2, fun h => ⟨Or.inr h, h⟩⟩
      rw [few_loop G ht ht0 f _ _ hx (by omega)]
      rw [show 2 ^ n - s = (2 ^ n - s - 1) + 1 by omega, forN_first]
      show _ = forN (fun k => fewG n nb t (s + (k + 1))) (2 ^ n - s - 1) (fewG n nb t s m)
      have hskip : ∀ k x, s + (k + 1) < (s + 1) ||| t → fewG n nb t (s + (k + 1)) x = x := fun k x hk => by
        unfold fewG
        refine if_neg (fun g => ?_)
        have := up_min 10 s t (s + (k + 1)) (by omega) hs g.1.1 (by omega)
        omega
      rcases Nat.lt_or_ge ((s + 1) ||| t) (2 ^ n) with hlt | hge2
      · obtain ⟨d, hd⟩ : ∃ d, (s + 1) ||| t = s + 1 + d := ⟨((s + 1) ||| t) - (s + 1), by omega⟩
        rw [hd] at hlt hskip ⊢
        rw [show 2 ^ n - s - 1 = d + (2 ^ n - (s + 1 + d)) by omega, forN_split, forN_skip d (fun k hk x => hskip k x (by omega))]
        refine forN_congr2 _ _ (fun k hk x => ?_)
        rw [show s + 1 + d + k = s + (d + k + 1) by omega]
      · rw [show 2 ^ n - ((s + 1) ||| t) = 0 by omega]
        rw [forN_skip (2 ^ n - s - 1) (fun k hk x => hskip k x (by omega))]
        rfl
    · rw [if_neg hsn, show 2 ^ n - s = 0 by omega]
      rfl
theorem few_eq (G : GR n nb) {t : Nat} (ht : t < 2 ^ n) (ht0 : ¬ t = 0) : cfwN n nb t = fewN n nb t := by
  have hp := pow10 G.1
  unfold cfwN
  rw [few_loop G ht ht0 1024 t (-1) (Nat.and_self t) (by omega)]
  show _ = forN (fewG n nb t) (2 ^ n) (-1)
  rw [show 2 ^ n = t + (2 ^ n - t) by omega, forN_split, forN_skip t (fun k hk x => ?_)]
  · rw [show t + (2 ^ n - t) - t = 2 ^ n - t by omega]
  · unfold fewG
    refine if_neg (fun g => ?_)
    have : t ≤ k := by rw [← g.1.1]; exact Nat.and_le_left
    omega
theorem few_0 (G : GR n nb) : fewN n nb 0 = nI 0 := by
  have hp1 : 1 ≤ 2 ^ n := Nat.one_le_two_pow
  have hp := pow10 G.1
  show forN (fewG n nb 0) (2 ^ n) (-1) = nI 0
  obtain ⟨N, hN⟩ : ∃ N, 2 ^ n = N + 1 := ⟨2 ^ n - 1, by omega⟩
  rw [hN, forN_first]
  have e : fewG n nb 0 0 (-1) = nI 0 := by
    unfold fewG
    rw [if_pos ⟨⟨rfl, by unfold wholeN; simp⟩, Or.inl rfl⟩]; rfl
  rw [e]
  refine forN_inv (I := fun _ (m : Int32) => m = nI 0) rfl (fun k m hk hm => ?_) N (Nat.le_refl _)
  rw [hm]
  unfold fewG
  refine if_neg (fun g => ?_)
  have hkl : k + 1 < 2 ^ n := by omega
  have := pop_le (s := k + 1) (by omega)
  rcases g.2 with g | g
  · exact nI_n1 (t := 0) (by omega) g
  · have := (nI_ltI (a := if k + 1 = 0 then 0 else pop (k + 1) - 1) (b := 0) (by split <;> omega) (by omega)).mp g
    omega
/-! the densest core -/
theorem least_ok {s : Nat} : ∀ j, (∀ k, k < j → s.testBit k = true → forN (fun k m => if s.testBit k = true ∧ pop (nb k &&& s) < m then pop (nb k &&& s) else m) j 10 ≤ pop (nb k &&& s)) ∧ (forN (fun k m => if s.testBit k = true ∧ pop (nb k &&& s) < m then pop (nb k &&& s) else m) j 10 = 10 ∨ ∃ k, k < j ∧ s.testBit k = true ∧ forN (fun k m => if s.testBit k = true ∧ pop (nb k &&& s) < m then pop (nb k &&& s) else m) j 10 = pop (nb k &&& s)) := by
  intro j
  induction j with
  | zero => exact ⟨fun k hk => absurd hk (Nat.not_lt_zero _), Or.inl rfl⟩
  | succ j ih =>
    generalize hM : forN (fun k m => if s.testBit k = true ∧ pop (nb k &&& s) < m then pop (nb k &&& s) else m) j 10 = M at ih
    have e : forN (fun k m => if s.testBit k = true ∧ pop (nb k &&& s) < m then pop (nb k &&& s) else m) (j + 1) 10 = (if s.testBit j = true ∧ pop (nb j &&& s) < M then pop (nb j &&& s) else M) := by rw [← hM]; rfl
    rw [e]
    by_cases c : s.testBit j = true ∧ pop (nb j &&& s) < M
    · rw [if_pos c]
      refine ⟨fun k hk hb => ?_, Or.inr ⟨j, by omega, c.1, rfl⟩⟩
      by_cases ek : k = j
      · rw [ek]; exact Nat.le_refl _
      · have := ih.1 k (by omega) hb; omega
    · rw [if_neg c]
      refine ⟨fun k hk hb => ?_, ?_⟩
      · by_cases ek : k = j
        · subst ek
          rcases Nat.lt_or_ge (pop (nb k &&& s)) M with g | g
          · exact absurd ⟨hb, g⟩ c
          · exact g
        · exact ih.1 k (by omega) hb
      · rcases ih.2 with g | ⟨k, h1, h2, h3⟩
        · exact Or.inl g
        · exact Or.inr ⟨k, by omega, h2, h3⟩
theorem loose_min {s : Nat} : ∀ j, (∀ k, k < j → s.testBit k = true → (forN (fun k (q : Nat × Nat) => if s.testBit k = true ∧ pop (nb k &&& s) < q.2 then (k, pop (nb k &&& s)) else q) j (0, 1000)).2 ≤ pop (nb k &&& s)) ∧ ((forN (fun k (q : Nat × Nat) => if s.testBit k = true ∧ pop (nb k &&& s) < q.2 then (k, pop (nb k &&& s)) else q) j (0, 1000)) = (0, 1000) ∨ (s.testBit (forN (fun k (q : Nat × Nat) => if s.testBit k = true ∧ pop (nb k &&& s) < q.2 then (k, pop (nb k &&& s)) else q) j (0, 1000)).1 = true ∧ (forN (fun k (q : Nat × Nat) => if s.testBit k = true ∧ pop (nb k &&& s) < q.2 then (k, pop (nb k &&& s)) else q) j (0, 1000)).2 = pop (nb (forN (fun k (q : Nat × Nat) => if s.testBit k = true ∧ pop (nb k &&& s) < q.2 then (k, pop (nb k &&& s)) else q) j (0, 1000)).1 &&& s))) := by
  intro j
  induction j with
  | zero => exact ⟨fun k hk => absurd hk (Nat.not_lt_zero _), Or.inl rfl⟩
  | succ j ih =>
    generalize hM : forN (fun k (q : Nat × Nat) => if s.testBit k = true ∧ pop (nb k &&& s) < q.2 then (k, pop (nb k &&& s)) else q) j (0, 1000) = M at ih
    have e : forN (fun k (q : Nat × Nat) => if s.testBit k = true ∧ pop (nb k &&& s) < q.2 then (k, pop (nb k &&& s)) else q) (j + 1) (0, 1000) = (if s.testBit j = true ∧ pop (nb j &&& s) < M.2 then (j, pop (nb j &&& s)) else M) := by rw [← hM]; rfl
    rw [e]
    by_cases c : s.testBit j = true ∧ pop (nb j &&& s) < M.2
    · rw [if_pos c]
      refine ⟨fun k hk hb => ?_, Or.inr ⟨c.1, rfl⟩⟩
      by_cases ek : k = j
      · rw [ek]; exact Nat.le_refl _
      · have := ih.1 k (by omega) hb
        show pop (nb j &&& s) ≤ _
        omega
    · rw [if_neg c]
      refine ⟨fun k hk hb => ?_, ih.2⟩
      by_cases ek : k = j
      · subst ek
        rcases Nat.lt_or_ge (pop (nb k &&& s)) M.2 with g | g
        · exact absurd ⟨hb, g⟩ c
        · exact g
      · exact ih.1 k (by omega) hb
theorem loose_at (G : GR n nb) {s : Nat} (hs : s < 2 ^ n) (h0 : ¬ s = 0) : s.testBit (looseV n nb s) = true ∧ ∀ k, s.testBit k = true → pop (nb (looseV n nb s) &&& s) ≤ pop (nb k &&& s) := by
  have hp := pow10 G.1
  have hlb := low_bit (show s < 1024 by omega) h0
  have h := loose_min (nb := nb) (s := s) n
  change (∀ k, k < n → s.testBit k = true → (looseN n nb s).2 ≤ pop (nb k &&& s)) ∧ (looseN n nb s = (0, 1000) ∨ (s.testBit (looseV n nb s) = true ∧ (looseN n nb s).2 = pop (nb (looseV n nb s) &&& s))) at h
  rcases h.2 with g | ⟨g1, g2⟩
  · have h1 := h.1 _ (bit_ltn hs hlb) hlb
    have h2 := pop_le (s := nb (low s) &&& s) (and_lt_r (by omega))
    rw [g] at h1
    exact absurd h1 (by show ¬ 1000 ≤ _; omega)
  · exact ⟨g1, fun k hk => by rw [← g2]; exact h.1 k (bit_ltn hs hk) hk⟩
theorem least_loose (G : GR n nb) {s : Nat} (hs : s < 2 ^ n) (h0 : ¬ s = 0) : leastN n nb s = pop (nb (looseV n nb s) &&& s) := by
  have hp := pow10 G.1
  obtain ⟨l1, l2⟩ := loose_at G hs h0
  have h := least_ok (nb := nb) (s := s) n
  change (∀ k, k < n → s.testBit k = true → leastN n nb s ≤ pop (nb k &&& s)) ∧ (leastN n nb s = 10 ∨ ∃ k, k < n ∧ s.testBit k = true ∧ leastN n nb s = pop (nb k &&& s)) at h
  have h1 := h.1 _ (bit_ltn hs l1) l1
  rcases h.2 with g | ⟨k, k1, k2, k3⟩
  · have hne : nb (looseV n nb s) &&& s ≠ s := fun e => by
      have : (nb (looseV n nb s) &&& s).testBit (looseV n nb s) = true := by rw [e]; exact l1
      have h2 := (and_t.mp this).1
      rw [G.2.2.2.2 _ (bit_ltn hs l1)] at h2; cases h2
    have h3 := pop_smono (show s < 1024 by omega) (fun i hi => (and_t.mp hi).2) hne
    have h4 := pop_le (s := s) (by omega)
    omega
  · have := l2 k k2
    omega
theorem core_eq (G : GR n nb) : (ccoreN n nb n).2 = coreN n nb := by
  have hn := G.1
  have hp := pow10 hn
  have hp1 : 1 ≤ 2 ^ n := Nat.one_le_two_pow
  -- what the reference takes the most of
  have hmax : ∀ s, 0 < s → s < 2 ^ n → leastN n nb s ≤ coreN n nb := by
    intro s h0 hs
    have h := forN_inv (f := fun k m => if m < leastN n nb (k + 1) then leastN n nb (k + 1) else m) (n := 2 ^ n - 1) (a := 0) (I := fun k (m : Nat) => s ≤ k → leastN n nb s ≤ m) (fun h => by omega) (fun k m hk hm h => ?_) (2 ^ n - 1) (Nat.le_refl _)
    · exact h (by omega)
    · by_cases e : s = k + 1
      · subst e; split <;> omega
      · have := hm (by omega); split <;> omega
  have hlub : ∀ R, (∀ s, 0 < s → s < 2 ^ n → leastN n nb s ≤ R) → coreN n nb ≤ R := by
    intro R hR
    refine forN_inv (I := fun _ (m : Nat) => m ≤ R) (Nat.zero_le _) (fun k m hk hm => ?_) (2 ^ n - 1) (Nat.le_refl _)
    split
    · exact hR (k + 1) (by omega) (by omega)
    · exact hm
  have key : ∀ j, j ≤ n → (ccoreN n nb j).1 < 2 ^ n ∧ pop (ccoreN n nb j).1 = n - j ∧ (ccoreN n nb j).2 ≤ coreN n nb ∧ ∀ s, 0 < s → s < 2 ^ n → subS s (ccoreN n nb j).1 ∨ leastN n nb s ≤ (ccoreN n nb j).2 := by
    intro j
    induction j with
    | zero => exact fun _ => ⟨by show 2 ^ n - 1 < 2 ^ n; omega, pop_all hn, Nat.zero_le _, fun s _ hs => Or.inl (fun i hi => all_t.mpr (bit_ltn hs hi))⟩
    | succ j ih =>
      intro hj
      obtain ⟨i1, i2, i3, i4⟩ := ih (by omega)
      generalize hq : ccoreN n nb j = q at i1 i2 i3 i4
      have e : ccoreN n nb (j + 1) = (sd q.1 (2 ^ (looseV n nb q.1)), if q.2 < pop (nb (looseV n nb q.1) &&& q.1) then pop (nb (looseV n nb q.1) &&& q.1) else q.2) := by rw [← hq]; rfl
      have hq0 : ¬ q.1 = 0 := fun g => by rw [g, show pop 0 = 0 by decide] at i2; omega
      obtain ⟨l1, l2⟩ := loose_at G i1 hq0
      have hll := least_loose G i1 hq0
      have hqc := hmax q.1 (by omega) i1
      rw [e]
      refine ⟨Nat.lt_of_le_of_lt sd_le i1, ?_, ?_, fun s h0 hs => ?_⟩
      · show pop (sd q.1 (2 ^ (looseV n nb q.1))) = _
        have hor : sd q.1 (2 ^ (looseV n nb q.1)) ||| 2 ^ (looseV n nb q.1) = q.1 := by
          refine eq_of_bits (fun i => ?_)
          rw [or_t, sd_t (by omega), pow_t]
          constructor
          · rintro (h | h)
            · exact h.1
            · rw [h]; exact l1
          · intro h
            by_cases e : i = looseV n nb q.1
            · exact Or.inr e
            · exact Or.inl ⟨h, Bool.eq_false_iff.mpr (fun g => e (pow_t.mp g))⟩
        have hpo := pop_or (s := sd q.1 (2 ^ (looseV n nb q.1))) (v := looseV n nb q.1) (sd_lt (by omega)) (by have := bit_ltn i1 l1; omega) (by rw [sd_bit _ _ _ (by omega), pow_t.mpr rfl]; simp)
        rw [hor] at hpo
        omega
      · show (if _ then _ else _) ≤ _
        split <;> omega
      · show subS s (sd q.1 (2 ^ (looseV n nb q.1))) ∨ leastN n nb s ≤ (if _ then _ else _)
        rcases i4 s h0 hs with h | h
        · cases hb : s.testBit (looseV n nb q.1) with
          | false => exact Or.inl (fun i hi => (sd_t (by omega)).mpr ⟨h i hi, Bool.eq_false_iff.mpr (fun g => by rw [pow_t.mp g, hb] at hi; cases hi)⟩)
          | true =>
            have h1 : leastN n nb s ≤ pop (nb (looseV n nb q.1) &&& s) := (least_ok (nb := nb) (s := s) n).1 _ (bit_ltn hs hb) hb
            have h2 : pop (nb (looseV n nb q.1) &&& s) ≤ pop (nb (looseV n nb q.1) &&& q.1) := pop_mono (fun i hi => and_t.mpr ⟨(and_t.mp hi).1, h i (and_t.mp hi).2⟩)
            refine Or.inr ?_
            split <;> omega
        · refine Or.inr ?_
          split <;> omega
  obtain ⟨k1, k2, k3, k4⟩ := key n (Nat.le_refl _)
  refine Nat.le_antisymm k3 (hlub _ (fun s h0 hs => ?_))
  rcases k4 s h0 hs with h | h
  · have hz : (ccoreN n nb n).1 = 0 := (pop_0 (by omega)).mp (by omega)
    rw [hz] at h
    have hlb := h _ (low_bit (show s < 1024 by omega) (by omega))
    simp at hlb
  · exact h
end GG
theorem pick_congr {p q : Nat → Bool} {k : Int32} : ∀ f s m, (∀ u, s ≤ u → u < s + f → p u = q u) → pickN p k f s m = pickN q k f s m
  | 0, s, m, h => rfl
  | f + 1, s, m, h => by
    simp only [pickN]
    rw [h s (Nat.le_refl _) (by omega), pick_congr f _ _ (fun u h1 h2 => h u (by omega) (by omega)), pick_congr f _ _ (fun u h1 h2 => h u (by omega) (by omega))]
