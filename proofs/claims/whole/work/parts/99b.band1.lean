/-! the reference's bands -/
def BVw (n : Nat) (nb : Nat → Nat) (w : Nat) (x : Nat → Nat) : Prop := ORD n x ∧ ∀ i j, i < n → j < n → (nb (x i)).testBit (x j) = true → i ≤ j + w ∧ j ≤ i + w
theorem pl_spec {r : Nat → Nat} {u : Nat} : ∀ many, (plN r many u = 0 ∧ ∀ j, j < many → r j ≠ u) ∨ ∃ p, p < many ∧ r p = u ∧ plN r many u = p + 1 := by
  intro many
  induction many with
  | zero => exact Or.inl ⟨rfl, fun j hj => absurd hj (Nat.not_lt_zero _)⟩
  | succ k ih =>
    have e : plN r (k + 1) u = if r k = u then k + 1 else plN r k u := rfl
    rw [e]
    by_cases h : r k = u
    · rw [if_pos h]; exact Or.inr ⟨k, by omega, h, rfl⟩
    · rw [if_neg h]
      rcases ih with ⟨h1, h2⟩ | ⟨p, h1, h2, h3⟩
      · refine Or.inl ⟨h1, fun j hj => ?_⟩
        by_cases e : j = k
        · rw [e]; exact h
        · exact h2 j (by omega)
      · exact Or.inr ⟨p, by omega, h2, h3⟩
def opN (nb : Nat → Nat) (r : Nat → Nat) (many k W : Nat) : Nat := Sm (fun u => if (nb (r k)).testBit u = true ∧ plN r many u = 0 then 1 else 0) W
theorem bdW_ok {n : Nat} {nb : Nat → Nat} {r : Nat → Nat} {many width k : Nat} {b : Bool} : ∀ W, ((forN (bdW n nb r many width k) W (b, 0)).1 = true ↔ b = true ∧ ∀ u, u < W → (nb (r k)).testBit u = true → ¬ plN r many u = 0 → plN r many u ≤ width + k + 1 ∧ k + 1 ≤ width + plN r many u) ∧ (forN (bdW n nb r many width k) W (b, 0)).2 = opN nb r many k W := by
  intro W
  induction W with
  | zero => exact ⟨⟨fun h => ⟨h, fun u hu => absurd hu (Nat.not_lt_zero _)⟩, fun h => h.1⟩, rfl⟩
  | succ W ih =>
    obtain ⟨i1, i2⟩ := ih
    generalize hq : forN (bdW n nb r many width k) W (b, 0) = q at i1 i2
    have e : forN (bdW n nb r many width k) (W + 1) (b, 0) = bdW n nb r many width k W q := by rw [← hq]; rfl
    have e2 : opN nb r many k (W + 1) = opN nb r many k W + (if (nb (r k)).testBit W = true ∧ plN r many W = 0 then 1 else 0) := rfl
    rw [e, e2]
    unfold bdW
    by_cases hb : (nb (r k)).testBit W = true
    · rw [if_pos hb]
      by_cases hp : plN r many W = 0
      · rw [if_pos hp, if_pos ⟨hb, hp⟩]
        refine ⟨?_, by show q.2 + 1 = _; rw [i2]⟩
        show q.1 = true ↔ _
        rw [i1]
        refine and_congr Iff.rfl ⟨fun h u hu hub hup => ?_, fun h u hu => h u (by omega)⟩
        by_cases eu : u = W
        · rw [eu] at hup; exact absurd hp hup
        · exact h u (by omega) hub hup
      · rw [if_neg hp, if_neg (fun g => hp g.2)]
        refine ⟨?_, by show q.2 = _; rw [i2]; rfl⟩
        show (q.1 && (decide (plN r many W ≤ width + k + 1) && decide (k + 1 ≤ width + plN r many W))) = true ↔ _
        rw [Bool.and_eq_true, Bool.and_eq_true, decide_eq_true_eq, decide_eq_true_eq, i1]
        constructor
        · rintro ⟨⟨h1, h2⟩, h3⟩
          refine ⟨h1, fun u hu hub hup => ?_⟩
          by_cases eu : u = W
          · rw [eu]; exact h3
          · exact h2 u (by omega) hub hup
        · rintro ⟨h1, h2⟩
          exact ⟨⟨h1, fun u hu => h2 u (by omega)⟩, h2 W (by omega) hb hp⟩
    · rw [if_neg hb, if_neg (fun g => hb g.1)]
      refine ⟨?_, by rw [i2]; rfl⟩
      rw [i1]
      refine and_congr Iff.rfl ⟨fun h u hu hub hup => ?_, fun h u hu => h u (by omega)⟩
      by_cases eu : u = W
      · rw [eu] at hub; exact absurd hub hb
      · exact h u (by omega) hub hup
theorem isBN_t {n : Nat} {nb : Nat → Nat} {r : Nat → Nat} {many width : Nat} : isBN n nb r many width = true ↔ ∀ k, k < many → (∀ u, u < n → (nb (r k)).testBit u = true → ¬ plN r many u = 0 → plN r many u ≤ width + k + 1 ∧ k + 1 ≤ width + plN r many u) ∧ (opN nb r many k n = 0 ∨ many + opN nb r many k n ≤ width + 1 + k) := by
  unfold isBN
  suffices h : ∀ j, forN (bdK n nb r many width) j true = true ↔ ∀ k, k < j → (∀ u, u < n → (nb (r k)).testBit u = true → ¬ plN r many u = 0 → plN r many u ≤ width + k + 1 ∧ k + 1 ≤ width + plN r many u) ∧ (opN nb r many k n = 0 ∨ many + opN nb r many k n ≤ width + 1 + k) from h many
  intro j
  induction j with
  | zero => exact ⟨fun _ k hk => absurd hk (Nat.not_lt_zero _), fun _ => rfl⟩
  | succ j ih =>
    generalize hb : forN (bdK n nb r many width) j true = b at ih
    have e : forN (bdK n nb r many width) (j + 1) true = bdK n nb r many width j b := by rw [← hb]; rfl
    rw [e]
    unfold bdK
    obtain ⟨w1, w2⟩ := bdW_ok (n := n) (nb := nb) (r := r) (many := many) (width := width) (k := j) (b := b) n
    rw [Bool.and_eq_true, Bool.or_eq_true, decide_eq_true_eq, decide_eq_true_eq, w1, w2, ih]
    constructor
    · rintro ⟨⟨h1, h2⟩, h3⟩ k hk
      by_cases ek : k = j
      · subst ek; exact ⟨h2, h3⟩
      · exact h1 k (by omega)
    · intro h
      exact ⟨⟨fun k hk => h k (by omega), (h j (by omega)).1⟩, (h j (by omega)).2⟩
/-- a set of those at places from a up to b -/
theorem pop_range {n : Nat} {y : Nat → Nat} (hn : n ≤ 10) (hy : ORD n y) {a b X : Nat} (hab : a ≤ b) (hb : b ≤ n) (hX : ∀ u, X.testBit u = true → ∃ p, a ≤ p ∧ p < b ∧ y p = u) : pop X ≤ b - a := by
  have hp := pow10 hn
  obtain ⟨a1, a2⟩ := ord_pop hn hy.1 (ord_no hy) a (by omega)
  obtain ⟨b1, b2⟩ := ord_pop hn hy.1 (ord_no hy) b hb
  have hsub : setR y a &&& setR y b = setR y a := sub_t.mpr (fun i hi => by
    obtain ⟨j, hj, e⟩ := (setR_t a).mp hi
    exact (setR_t b).mpr ⟨j, by omega, e⟩)
  have h1 := pop_sd (show setR y b < 1024 by omega) hsub
  have h2 : pop X ≤ pop (sd (setR y b) (setR y a)) := pop_mono (fun u hu => by
    obtain ⟨p, p1, p2, p3⟩ := hX u hu
    refine (sd_t (by omega)).mpr ⟨(setR_t b).mpr ⟨p, p2, p3⟩, Bool.eq_false_iff.mpr (fun g => ?_)⟩
    obtain ⟨q, q1, q2⟩ := (setR_t a).mp g
    have := hy.2 q p (by omega) (by omega) (q2.trans p3.symm)
    omega)
  omega
section GG
variable {n : Nat} {nb : Nat → Nat}
theorem isB_nec (G : GR n nb) {w k : Nat} {r y : Nat → Nat} (hk : k < n) (hy : BVw n nb w y) (ha : agK (k + 1) r y) : isBN n nb r (k + 1) w = true := by
  have hn := G.1
  have hp := pow10 hn
  rw [isBN_t]
  intro i hi
  have hri : r i = y i := ha i hi
  have hyi := hy.1.1 i (by omega)
  refine ⟨fun u hu hub hup => ?_, ?_⟩
  · rcases pl_spec (r := r) (u := u) (k + 1) with ⟨h1, _⟩ | ⟨p, h1, h2, h3⟩
    · exact absurd h1 hup
    · rw [h3]
      have hup2 : u = y p := by rw [← h2]; exact ha p h1
      rw [hri, hup2] at hub
      have := hy.2 i p (by omega) (by omega) hub
      omega
  · -- those still to come
    have hX : opN nb r (k + 1) i n = pop (sd (nb (y i)) (setR y (k + 1))) := by
      unfold opN
      rw [pop_Sm, Sm_ext (f := ch (sd (nb (y i)) (setR y (k + 1)))) (n := n) 10 hn (fun u h1 h2 => ch_f (Bool.eq_false_iff.mpr (fun g => by
        have := gr_lt G hyi ((sd_t (gr_1024 G _ (by omega))).mp g).1
        omega)))]
      refine Sm_congr n (fun u hu => ?_)
      have hbits := sd_t (a := nb (y i)) (b := setR y (k + 1)) (i := u) (gr_1024 G _ (by omega))
      by_cases c : (nb (r i)).testBit u = true ∧ plN r (k + 1) u = 0
      · rw [if_pos c]
        refine (ch_t (hbits.mpr ⟨by rw [← hri]; exact c.1, Bool.eq_false_iff.mpr (fun g => ?_)⟩)).symm
        obtain ⟨j, hj, e⟩ := (setR_t (k + 1)).mp g
        rcases pl_spec (r := r) (u := u) (k + 1) with ⟨_, h2⟩ | ⟨p, h1, h2, h3⟩
        · exact h2 j hj (by rw [ha j hj]; exact e)
        · have := c.2; omega
      · rw [if_neg c]
        refine (ch_f (Bool.eq_false_iff.mpr (fun g => c ?_))).symm
        obtain ⟨g1, g2⟩ := hbits.mp g
        refine ⟨by rw [hri]; exact g1, ?_⟩
        rcases pl_spec (r := r) (u := u) (k + 1) with ⟨h1, _⟩ | ⟨p, h1, h2, h3⟩
        · exact h1
        · rw [(setR_t (k + 1)).mpr ⟨p, h1, by rw [← ha p h1]; exact h2⟩] at g2; cases g2
    by_cases h0 : opN nb r (k + 1) i n = 0
    · exact Or.inl h0
    · refine Or.inr ?_
      have hmem : ∀ u, (sd (nb (y i)) (setR y (k + 1))).testBit u = true → ∃ p, k + 1 ≤ p ∧ p < n ∧ y p = u ∧ p ≤ i + w := fun u hu => by
        obtain ⟨g1, g2⟩ := (sd_t (gr_1024 G _ (by omega))).mp hu
        obtain ⟨p, p1, p2, p3⟩ := ord_at hn hy.1 (gr_lt G hyi g1)
        have hpk : k + 1 ≤ p := by
          rcases Nat.lt_or_ge p (k + 1) with g | g
          · rw [(setR_t (k + 1)).mpr ⟨p, g, p2⟩] at g2; cases g2
          · exact g
        have := hy.2 i p (by omega) p1 (by rw [p2]; exact g1)
        exact ⟨p, hpk, p1, p2, this.2⟩
      rcases Nat.lt_or_ge (i + w + 1) (k + 1) with g | g
      · -- then there is none
        exfalso
        apply h0
        rw [hX, (pop_0 (sd_lt (gr_1024 G _ (by omega)))).mpr]
        refine eq_of_bits (fun u => ⟨fun hu => ?_, fun hu => by simp at hu⟩)
        obtain ⟨p, p1, p2, p3, p4⟩ := hmem u hu
        omega
      · have hle := pop_range hn hy.1 (a := k + 1) (b := if i + w + 1 ≤ n then i + w + 1 else n) (X := sd (nb (y i)) (setR y (k + 1))) (by split <;> omega) (by split <;> omega) (fun u hu => by
          obtain ⟨p, p1, p2, p3, p4⟩ := hmem u hu
          exact ⟨p, p1, by split <;> omega, p3⟩)
        rw [← hX] at hle
        split at hle <;> omega
theorem isB_full (G : GR n nb) {w : Nat} {r : Nat → Nat} (hr : ORD n r) (h : isBN n nb r n w = true) : BVw n nb w r := by
  refine ⟨hr, fun i j hi hj hb => ?_⟩
  have h1 := ((isBN_t.mp h) i hi).1 (r j) (hr.1 j hj) hb
  rcases pl_spec (r := r) (u := r j) n with ⟨_, g2⟩ | ⟨p, g1, g2, g3⟩
  · exact absurd rfl (g2 j hj)
  · have hpj := hr.2 p j g1 hj g2
    have := h1 (by omega)
    omega
theorem st_t {r : Nat → Nat} {v : Nat} : ∀ k, stN r k v = true ↔ ∃ j, j < k ∧ r j = v := by
  intro k
  induction k with
  | zero => exact ⟨fun h => (by cases h), fun ⟨j, hj, _⟩ => absurd hj (Nat.not_lt_zero _)⟩
  | succ k ih =>
    have e : stN r (k + 1) v = (stN r k v || decide (r k = v)) := rfl
    rw [e, Bool.or_eq_true, ih, decide_eq_true_eq]
    constructor
    · rintro (⟨j, hj, h⟩ | h)
      · exact ⟨j, by omega, h⟩
      · exact ⟨k, by omega, h⟩
    · rintro ⟨j, hj, h⟩
      by_cases e : j = k
      · right; rw [← e]; exact h
      · exact Or.inl ⟨j, by omega, h⟩
/-- what a beginning of a row keeps -/
def PRk (n k : Nat) (r : Nat → Nat) : Prop := (∀ j, j < k → r j < n) ∧ ∀ i j, i < k → j < k → r i = r j → i = j
theorem bs_main (G : GR n nb) {w : Nat} : ∀ f k r, k + f = n → PRk n k r → (k = n → BVw n nb w r) → (∀ x, bsF n nb w f k r = some x → LLk n (BVw n nb w) k 0 r x) ∧ (bsF n nb w f k r = none → ∀ y, BVw n nb w y → ¬ agK k r y)
  | 0, k, r, hk, hp, hv => by
    have hkn : k = n := by omega
    refine ⟨fun x hx => ?_, fun h => (by cases h)⟩
    cases hx
    refine ⟨hv hkn, fun j hj => rfl, fun h => by omega, fun y hy ha _ => Or.inl (by rw [← hkn]; exact ha)⟩
  | f + 1, k, r, hk, hp, hv => by
    have hn := G.1
    have hstep : ∀ v, v < n → bsK n nb w k r v = true → PRk n (k + 1) (upN r k v) ∧ (k + 1 = n → BVw n nb w (upN r k v)) := by
      intro v hv hok
      unfold bsK at hok
      rw [Bool.and_eq_true] at hok
      have hst : ¬ ∃ j, j < k ∧ r j = v := fun g => by
        have := (st_t k).mpr g
        rw [this] at hok; exact absurd hok.1 (by decide)
      have hpr : PRk n (k + 1) (upN r k v) := by
        refine ⟨fun j hj => ?_, fun i j hi hj g => ?_⟩
        · unfold upN
          by_cases e : j = k
          · rw [if_pos e]; exact hv
          · rw [if_neg e]; exact hp.1 j (by omega)
        · unfold upN at g
          by_cases e1 : i = k <;> by_cases e2 : j = k
          · omega
          · rw [if_pos e1, if_neg e2] at g; exact absurd ⟨j, by omega, g.symm⟩ hst
          · rw [if_neg e1, if_pos e2] at g; exact absurd ⟨i, by omega, g⟩ hst
          · rw [if_neg e1, if_neg e2] at g; exact hp.2 i j (by omega) (by omega) g
      refine ⟨hpr, fun hkn => ?_⟩
      have h2 := hok.2
      rw [hkn] at h2 hpr
      exact isB_full G ⟨hpr.1, hpr.2⟩ h2
    obtain ⟨a, b⟩ := bsV_ok (n := n) (k := k) (V := BVw n nb w) (r := r) (ok := bsK n nb w k r) (rc := fun v => bsF n nb w f (k + 1) (upN r k v)) (by omega) (fun y hy => hy.1.1) (fun y hy ha => by
      unfold bsK
      rw [Bool.and_eq_true]
      refine ⟨?_, isB_nec G (by omega) hy (ag_up ha rfl)⟩
      cases hs : stN r k (y k) with
      | false => rfl
      | true =>
        obtain ⟨j, hj, e⟩ := (st_t k).mp hs
        rw [ha j hj] at e
        have := hy.1.2 j k (by omega) (by omega) e
        omega) (fun v x hv hok hx => by
      obtain ⟨s1, s2⟩ := hstep v hv hok
      exact (bs_main G f (k + 1) (upN r k v) (by omega) s1 s2).1 x hx) (fun v hv hok hx => by
      obtain ⟨s1, s2⟩ := hstep v hv hok
      exact (bs_main G f (k + 1) (upN r k v) (by omega) s1 s2).2 hx) n 0 (Nat.zero_add _)
    refine ⟨fun x hx => a x hx, fun hx y hy ha => ?_⟩
    have := b hx y hy ha
    omega
end GG
