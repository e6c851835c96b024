/-! the reference's ways, pushed on from set to set -/
def inV (ring : Bool) (v : Nat) : Int64 := if ring = false ∨ v = 0 then 1 else 0
theorem clr64 {f : Nat → Int64} {N i : Nat} (hi : i < N) : forN (fun k f => vp_updL f k 0) N f i = 0 := by
  have h := forN_inv (f := fun k (f : Nat → Int64) => vp_updL f k 0) (n := N) (a := f) (I := fun k (f : Nat → Int64) => i < k → f i = 0) (fun h => absurd h (Nat.not_lt_zero _)) (fun k f hk hf h => ?_) N (Nat.le_refl _)
  · exact h hi
  · by_cases e : i = k
    · rw [e, vpu_s]
    · rw [vpu_n e]; exact hf (by omega)
theorem rwI_at {n : Nat} (hn : n ≤ 10) {ring : Bool} {f : Nat → Int64} {s v : Nat} (hs : s < 1024) (hv : v < n) : rwI n ring f (10 * s + v) = if s = 2 ^ v then inV ring v else 0 := by
  unfold rwI
  have h := forN_inv (f := fun v (f : Nat → Int64) => vp_updL f (10 * 2 ^ v + v) (if ring = false ∨ v = 0 then 1 else 0)) (n := n) (a := forN (fun k f => vp_updL f k 0) 10240 f) (I := fun k (g : Nat → Int64) => g (10 * s + v) = if s = 2 ^ v ∧ v < k then inV ring v else 0) ?_ (fun k g hk hg => ?_) n (Nat.le_refl _)
  · rw [h]
    by_cases e : s = 2 ^ v
    · rw [if_pos ⟨e, hv⟩, if_pos e]
    · rw [if_neg (fun g => e g.1), if_neg e]
  · rw [clr64 (by omega), if_neg (fun g => absurd g.2 (Nat.not_lt_zero _))]
  · by_cases e : s = 2 ^ v ∧ v = k
    · obtain ⟨e1, e2⟩ := e
      subst e2
      rw [if_pos (show s = 2 ^ v ∧ v < v + 1 from ⟨e1, by omega⟩), e1, vpu_s]; rfl
    · have hne : 10 * s + v ≠ 10 * 2 ^ k + k := fun g => by
        have hvk : v = k := by omega
        exact e ⟨by rw [hvk]; omega, hvk⟩
      rw [vpu_n hne, hg]
      by_cases c : s = 2 ^ v ∧ v < k
      · rw [if_pos c, if_pos ⟨c.1, by omega⟩]
      · rw [if_neg c, if_neg (fun g => c ⟨g.1, by
          rcases Nat.lt_or_ge v k with h | h
          · exact h
          · exact absurd ⟨g.1, by omega⟩ e⟩)]
theorem rg9 (a b : Int64) : a + 0 + b = a + b := by grind
theorem rwW_at {n : Nat} {nb : Nat → Nat} (hn : n ≤ 10) {S j : Nat} {x : Int64} {f : Nat → Int64} {s v : Nat} (hv : v < n) : forN (rwW nb S j x) n f (10 * s + v) = f (10 * s + v) + (if (nb j).testBit v = true ∧ S.testBit v = false ∧ s = S ||| 2 ^ v then x else 0) := by
  have h := forN_inv (f := rwW nb S j x) (n := n) (a := f) (I := fun k (g : Nat → Int64) => g (10 * s + v) = f (10 * s + v) + (if v < k ∧ (nb j).testBit v = true ∧ S.testBit v = false ∧ s = S ||| 2 ^ v then x else 0)) ?_ (fun k g hk hg => ?_) n (Nat.le_refl _)
  · rw [h]
    by_cases c : (nb j).testBit v = true ∧ S.testBit v = false ∧ s = S ||| 2 ^ v
    · rw [if_pos ⟨hv, c⟩, if_pos c]
    · rw [if_neg (fun g => c g.2), if_neg c]
  · rw [if_neg (fun g => absurd g.1 (Nat.not_lt_zero _))]; grind
  · unfold rwW
    by_cases c : (nb j).testBit k = true ∧ S.testBit k = false
    · rw [if_pos c]
      by_cases e : s = S ||| 2 ^ k ∧ v = k
      · obtain ⟨e1, e2⟩ := e
        subst e2
        subst e1
        rw [vpu_s, hg, if_neg (fun g => absurd g.1 (Nat.lt_irrefl _)), if_pos (show v < v + 1 ∧ (nb j).testBit v = true ∧ S.testBit v = false ∧ S ||| 2 ^ v = S ||| 2 ^ v from ⟨by omega, c.1, c.2, rfl⟩)]
        exact rg9 _ _
      · have hne : 10 * s + v ≠ 10 * (S ||| 2 ^ k) + k := fun g => by
          have hvk : v = k := by omega
          exact e ⟨by omega, hvk⟩
        rw [vpu_n hne, hg]
        by_cases c2 : v < k ∧ (nb j).testBit v = true ∧ S.testBit v = false ∧ s = S ||| 2 ^ v
        · rw [if_pos c2, if_pos ⟨by omega, c2.2⟩]
        · rw [if_neg c2, if_neg (fun g => c2 ⟨by
            rcases Nat.lt_or_ge v k with h | h
            · exact h
            · have hvk : v = k := by omega
              exact absurd ⟨by rw [← hvk]; exact g.2.2.2, hvk⟩ e, g.2⟩)]
    · rw [if_neg c, hg]
      by_cases c2 : v < k ∧ (nb j).testBit v = true ∧ S.testBit v = false ∧ s = S ||| 2 ^ v
      · rw [if_pos c2, if_pos ⟨by omega, c2.2⟩]
      · rw [if_neg c2, if_neg (fun g => c2 ⟨by
          rcases Nat.lt_or_ge v k with h | h
          · exact h
          · have hvk : v = k := by omega
            exact absurd ⟨by rw [← hvk]; exact g.2.1, by rw [← hvk]; exact g.2.2.1⟩ c, g.2⟩)]
/-- what stands in the table when sets up to k are done, and of the next the vertices below j -/
def rwT (nb : Nat → Nat) (V : Nat → Nat → Int64) (ring : Bool) (k j s v : Nat) : Int64 := if s.testBit v = true then (if sd s (2 ^ v) = 0 then inV ring v else if sd s (2 ^ v) ≤ k then V s v else if sd s (2 ^ v) = k + 1 then Sg (fun u => if (nb u).testBit v = true then V (k + 1) u else 0) j else 0) else 0
theorem rg7 (a : Int64) : a + 0 = a := by grind
theorem rg8 (a b c : Int64) : a + b + c = a + (b + c) := by grind
theorem rw_main {n : Nat} {nb : Nat → Nat} (hn : n ≤ 10) {ring : Bool} {f : Nat → Int64} {V : Nat → Nat → Int64} (h0 : ∀ s v, s < 2 ^ n → v < n → s.testBit v = false → V s v = 0) (h1 : ∀ s v, s < 2 ^ n → v < n → s.testBit v = true → sd s (2 ^ v) = 0 → V s v = inV ring v) (h2 : ∀ s v, s < 2 ^ n → v < n → s.testBit v = true → ¬ sd s (2 ^ v) = 0 → V s v = Sg (fun u => if (nb u).testBit v = true then V (sd s (2 ^ v)) u else 0) n) (hn1 : 1 ≤ n) : (rwN n nb ring f).2 = Sg (fun v => if ring = false ∨ (nb v).testBit 0 = true then V (2 ^ n - 1) v else 0) n := by
  have hp := pow10 hn
  have hp2 : 2 ≤ 2 ^ n := by
    have : 2 ^ 1 ≤ 2 ^ n := Nat.pow_le_pow_right (by decide) hn1
    omega
  -- one set
  have hset : ∀ k, k + 1 < 2 ^ n → ∀ q : (Nat → Int64) × Int64, (∀ s v, s < 2 ^ n → v < n → q.1 (10 * s + v) = rwT nb V ring k 0 s v) → ∀ j, j ≤ n → (∀ s v, s < 2 ^ n → v < n → (forN (rwV n nb ring (k + 1)) j q).1 (10 * s + v) = rwT nb V ring k j s v) ∧ (forN (rwV n nb ring (k + 1)) j q).2 = q.2 + Sg (fun v => if k + 1 = 2 ^ n - 1 ∧ (ring = false ∨ (nb v).testBit 0 = true) then V (k + 1) v else 0) j := by
    intro k hk q hq j
    induction j with
    | zero => exact fun _ => ⟨hq, by show q.2 = q.2 + (0 : Int64); grind⟩
    | succ j ih =>
      intro hj
      obtain ⟨i1, i2⟩ := ih (by omega)
      generalize hQ : forN (rwV n nb ring (k + 1)) j q = Q at i1 i2
      have e : forN (rwV n nb ring (k + 1)) (j + 1) q = rwV n nb ring (k + 1) j Q := by rw [← hQ]; rfl
      have hx : Q.1 (10 * (k + 1) + j) = V (k + 1) j := by
        rw [i1 (k + 1) j hk (by omega)]
        unfold rwT
        cases hb : (k + 1).testBit j with
        | false => rw [if_neg (by decide), h0 _ _ hk (by omega) hb]
        | true =>
          rw [if_pos rfl]
          have hlt := sd_one_lt (show k + 1 < 1024 by omega) hb
          by_cases e0 : sd (k + 1) (2 ^ j) = 0
          · rw [if_pos e0, h1 _ _ hk (by omega) hb e0]
          · rw [if_neg e0, if_pos (by omega)]
      rw [e]
      unfold rwV
      rw [hx]
      refine ⟨fun s v hs hv => ?_, ?_⟩
      · show forN (rwW nb (k + 1) j (V (k + 1) j)) n Q.1 (10 * s + v) = _
        rw [rwW_at hn hv, i1 s v hs hv]
        unfold rwT
        have hiff : (s.testBit v = true ∧ sd s (2 ^ v) = k + 1) ↔ ((k + 1).testBit v = false ∧ s = (k + 1) ||| 2 ^ v) := by
          constructor
          · rintro ⟨g1, g2⟩
            refine ⟨?_, ?_⟩
            · rw [← g2, sd_bit _ _ _ (by omega), pow_t.mpr rfl]; simp
            · rw [← g2]
              refine eq_of_bits (fun i => ?_)
              rw [or_t, sd_t (by omega), pow_t]
              constructor
              · intro h
                by_cases e : i = v
                · exact Or.inr e
                · exact Or.inl ⟨h, Bool.eq_false_iff.mpr (fun g => e (pow_t.mp g))⟩
              · rintro (h | h)
                · exact h.1
                · rw [h]; exact g1
          · rintro ⟨g1, g2⟩
            rw [g2]
            exact ⟨or_t.mpr (Or.inr (pow_t.mpr rfl)), or_sd (by omega) (by omega) g1⟩
        cases hb : s.testBit v with
        | false =>
          rw [if_neg (by decide), if_neg (fun g => by rw [(hiff.mpr g.2).1] at hb; cases hb), if_neg (by decide)]; grind
        | true =>
          rw [if_pos rfl, if_pos rfl]
          by_cases e1 : sd s (2 ^ v) = k + 1
          · have e3 := hiff.mp ⟨hb, e1⟩
            have n0 : ¬ sd s (2 ^ v) = 0 := by omega
            have n1 : ¬ sd s (2 ^ v) ≤ k := by omega
            rw [if_neg n0, if_neg n1, if_pos e1, if_neg n0, if_neg n1, if_pos e1, Sg_s]
            cases hbn : (nb j).testBit v with
            | true => rw [if_pos (show true = true ∧ (k + 1).testBit v = false ∧ s = k + 1 ||| 2 ^ v from ⟨rfl, e3⟩), if_pos rfl]
            | false => rw [if_neg (show ¬ (false = true ∧ (k + 1).testBit v = false ∧ s = k + 1 ||| 2 ^ v) from fun g => absurd g.1 (by decide)), if_neg (by decide)]
          · rw [if_neg (show ¬ ((nb j).testBit v = true ∧ (k + 1).testBit v = false ∧ s = k + 1 ||| 2 ^ v) from fun g => e1 (hiff.mpr g.2).2), if_neg e1, if_neg e1]
            exact rg7 _
      · show Q.2 + _ = _
        rw [i2, Sg_s]
        exact rg8 _ _ _
  have hall : ∀ k, k ≤ 2 ^ n - 1 → (∀ s v, s < 2 ^ n → v < n → (forN (rwS n nb ring) k (rwI n ring f, 0)).1 (10 * s + v) = rwT nb V ring k 0 s v) ∧ (forN (rwS n nb ring) k (rwI n ring f, 0)).2 = if k = 2 ^ n - 1 then Sg (fun v => if ring = false ∨ (nb v).testBit 0 = true then V (2 ^ n - 1) v else 0) n else 0 := by
    intro k
    induction k with
    | zero =>
      intro _
      refine ⟨fun s v hs hv => ?_, ?_⟩
      · show rwI n ring f (10 * s + v) = _
        rw [rwI_at hn (by omega) hv]
        unfold rwT
        by_cases e : s = 2 ^ v
        · rw [if_pos e, if_pos (by rw [e]; exact pow_t.mpr rfl), if_pos (by rw [e]; exact (sd_eq0 (pow_lt (by omega)) (Nat.and_self _)).mpr rfl)]
        · rw [if_neg e]
          cases hb : s.testBit v with
          | false => rw [if_neg (by decide)]
          | true =>
            rw [if_pos rfl]
            have hne : ¬ sd s (2 ^ v) = 0 := fun g => e (eq_of_bits (fun i => by
              rw [pow_t]
              constructor
              · intro h
                refine Classical.byContradiction (fun hi => ?_)
                have : (sd s (2 ^ v)).testBit i = true := (sd_t (by omega)).mpr ⟨h, Bool.eq_false_iff.mpr (fun g2 => hi (pow_t.mp g2))⟩
                rw [g] at this; simp at this
              · intro h; rw [h]; exact hb))
            rw [if_neg hne, if_neg (by omega)]
            split
            · rfl
            · rfl
      · show (0 : Int64) = _
        rw [if_neg (by omega)]
    | succ k ih =>
      intro hk
      obtain ⟨i1, i2⟩ := ih (by omega)
      generalize hQ : forN (rwS n nb ring) k (rwI n ring f, 0) = Q at i1 i2
      have e : forN (rwS n nb ring) (k + 1) (rwI n ring f, 0) = forN (rwV n nb ring (k + 1)) n Q := by rw [← hQ]; rfl
      obtain ⟨s1, s2⟩ := hset k (by omega) Q i1 n (Nat.le_refl _)
      rw [e]
      refine ⟨fun s v hs hv => ?_, ?_⟩
      · rw [s1 s v hs hv]
        unfold rwT
        cases hb : s.testBit v with
        | false => rw [if_neg (by decide), if_neg (by decide)]
        | true =>
          rw [if_pos rfl, if_pos rfl]
          by_cases e0 : sd s (2 ^ v) = 0
          · rw [if_pos e0, if_pos e0]
          · rw [if_neg e0, if_neg e0]
            by_cases e1 : sd s (2 ^ v) ≤ k
            · rw [if_pos e1, if_pos (by omega)]
            · rw [if_neg e1]
              by_cases e2 : sd s (2 ^ v) = k + 1
              · rw [if_pos e2, if_pos (by omega), h2 s v hs hv hb e0, e2]
              · rw [if_neg e2, if_neg (by omega)]
                split
                · rfl
                · rfl
      · rw [s2, i2, if_neg (by omega)]
        by_cases e1 : k + 1 = 2 ^ n - 1
        · rw [if_pos e1, Sg_congr n (g := fun v => if ring = false ∨ (nb v).testBit 0 = true then V (2 ^ n - 1) v else 0) (fun v hv => ?_)]
          · grind
          · try dsimp only
            rw [← e1]
            by_cases c : ring = false ∨ (nb v).testBit 0 = true
            · rw [if_pos ⟨rfl, c⟩, if_pos c]
            · rw [if_neg (fun g => c g.2), if_neg c]
        · rw [if_neg e1, Sg_congr n (g := fun _ => 0) (fun v hv => if_neg (fun g => e1 g.1)), Sg_0]; grind
  have := (hall (2 ^ n - 1) (Nat.le_refl _)).2
  rw [if_pos rfl] at this
  exact this
section GG
variable {n : Nat} {nb : Nat → Nat}
theorem sum_sym (G : GR n nb) {v : Nat} (hv : v < n) {F : Nat → Int64} : Sg (fun w => if (nb v).testBit w = true then F w else 0) 10 = Sg (fun u => if (nb u).testBit v = true then F u else 0) n := by
  have hn := G.1
  rw [Sg_ext (n := n) 10 hn (fun k h1 h2 => if_neg (fun g => by have := gr_lt G hv g; omega))]
  refine Sg_congr n (fun u hu => ?_)
  try dsimp only
  cases hb : (nb v).testBit u with
  | true => rw [if_pos rfl, if_pos (gr_sym G hv hb)]
  | false => rw [if_neg (by decide), if_neg (fun g => by rw [gr_sym G hu g] at hb; cases hb)]
/-- the reference's rings -/
theorem rring_eq (G : GR n nb) (hn1 : 1 ≤ n) {f : Nat → Int64} : (rwN n nb true f).2 = ringN nb (2 ^ n - 1) 0 := by
  have hn := G.1
  have hp := pow10 hn
  rw [rw_main (V := fun s v => hpN nb s 0 v) hn (fun s v _ _ h => hp_out h) (fun s v _ _ h e => ?_) (fun s v hs hv h e => ?_) hn1]
  · unfold ringN
    rw [Sg_ext (n := n) 10 hn (fun k h1 h2 => if_neg (fun g => by have := gr_lt G (by omega) g; omega))]
    refine Sg_congr n (fun v hv => ?_)
    try dsimp only
    cases hb : (nb v).testBit 0 with
    | true => rw [if_pos (Or.inr rfl), if_pos (gr_sym G hv hb)]
    | false => rw [if_neg (fun g => by rcases g with g | g <;> cases g), if_neg (fun g => by rw [gr_sym G (by omega) g] at hb; cases hb)]
  · rw [hp_one h e]
    unfold inV
    by_cases c : v = 0
    · rw [if_pos c.symm, if_pos (Or.inr c)]
    · have hno : ¬ (true = false ∨ v = 0) := by
        rintro (g | g)
        · cases g
        · exact c g
      rw [if_neg (fun g => c g.symm), if_neg hno]
  · rw [hp_step (by omega) h e, sum_sym G hv]
/-- the reference's ways -/
theorem rway_eq (G : GR n nb) (hn1 : 1 ≤ n) {f : Nat → Int64} : (rwN n nb false f).2 = Sg (fun u => Sg (fun v => hpN nb (2 ^ n - 1) u v) 10) 10 := by
  have hn := G.1
  have hp := pow10 hn
  rw [rw_main (V := fun s v => Sg (fun u => hpN nb s u v) 10) hn (fun s v _ _ h => ?_) (fun s v hs hv h e => ?_) (fun s v hs hv h e => ?_) hn1]
  · rw [Sg_swap, Sg_ext (f := fun v => Sg (fun u => hpN nb (2 ^ n - 1) u v) 10) (n := n) 10 hn (fun k h1 h2 => by
      rw [Sg_congr 10 (g := fun _ => 0) (fun u _ => hp_out (Bool.eq_false_iff.mpr (fun g => by have := all_t.mp g; omega))), Sg_0])]
    exact Sg_congr n (fun v hv => if_pos (Or.inl rfl))
  · rw [Sg_congr 10 (g := fun _ => 0) (fun u _ => hp_out h), Sg_0]
  · unfold inV
    rw [if_pos (Or.inl rfl), Sg_one (l := v) 10 (by omega) (fun u _ hne => by rw [hp_one h e, if_neg hne]), hp_one h e, if_pos rfl]
  · rw [Sg_congr 10 (fun u _ => hp_step (by omega) h e), Sg_swap, ← sum_sym G hv (F := fun w => Sg (fun u => hpN nb (sd s (2 ^ v)) u w) 10)]
    exact Sg_congr 10 (fun w _ => if_Sg.symm)
end GG
