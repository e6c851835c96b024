/-! both sides lay the same row by height -/
def IV (n : Nat) (nb : Nat → Nat) (s : Nat) (h hi : Nat → Nat) : Prop := ∀ j, j < n → s.testBit j = true → hi j = tallN n h (hangN n nb j s)
section GG
variable {n : Nat} {nb : Nat → Nat}
theorem tall_tch (G : GR n nb) {s v : Nat} {h hi : Nat → Nat} (hs : s < 2 ^ n) (hI : IV n nb s h hi) : tallN n hi (tchN nb s v) = tallN n h (tchN nb s v) := by
  refine Nat.le_antisymm (tall_le (fun j hj hb => ?_)) (tall_le (fun j hj hb => ?_))
  · obtain ⟨t1, t2⟩ := (tch_t G hs).mp hb
    rw [hI j hj t1]
    refine tall_le (fun i hi hib => tall_ge hi ((tch_t G hs).mpr ⟨hang_sub2 t1 i hib, ?_⟩))
    rw [hang_eq G hs t1 hib]; exact t2
  · obtain ⟨t1, t2⟩ := (tch_t G hs).mp hb
    have h1 := tall_ge (n := n) (h := h) hj (hang_self n nb j s)
    have h2 := tall_ge (n := n) (h := hi) hj hb
    rw [hI j hj t1] at h2
    omega
theorem ar_jo {s j : Nat} (hb : s.testBit j = true) : arN n nb j s = joN n nb s j := by
  unfold arN joN; rw [if_pos hb]
theorem hh_tall (G : GR n nb) {hi : Nat → Nat} {s v : Nat} (hs : s < 2 ^ n) (hsv : s.testBit v = false) : hhN n nb hi s v = 1 + tallN n hi (tchN nb s v) := by
  unfold hhN tallN
  suffices g : ∀ N, N ≤ n → forN (fun j h => if s.testBit j = true ∧ (arN n nb j s).testBit v = true ∧ h < hi j + 1 then hi j + 1 else h) N 1 = 1 + forN (fun w m => if (tchN nb s v).testBit w then (if m < hi w then hi w else m) else m) N 0 from g n (Nat.le_refl _)
  intro N
  induction N with
  | zero => intro _; rfl
  | succ N ih =>
    intro hN
    have i1 := ih (by omega)
    generalize hx : forN (fun j h => if s.testBit j = true ∧ (arN n nb j s).testBit v = true ∧ h < hi j + 1 then hi j + 1 else h) N 1 = x at i1
    generalize hy : forN (fun w m => if (tchN nb s v).testBit w then (if m < hi w then hi w else m) else m) N 0 = y at i1
    have e1 : forN (fun j h => if s.testBit j = true ∧ (arN n nb j s).testBit v = true ∧ h < hi j + 1 then hi j + 1 else h) (N + 1) 1 = if s.testBit N = true ∧ (arN n nb N s).testBit v = true ∧ x < hi N + 1 then hi N + 1 else x := by rw [← hx]; rfl
    have e2 : forN (fun w m => if (tchN nb s v).testBit w then (if m < hi w then hi w else m) else m) (N + 1) 0 = if (tchN nb s v).testBit N then (if y < hi N then hi N else y) else y := by rw [← hy]; rfl
    rw [e1, e2]
    have hj := jo_tch G (k := N) hs (by omega) hsv
    by_cases hb : (tchN nb s v).testBit N = true
    · have hsN := tch_subS G hs N hb
      have har : (arN n nb N s).testBit v = true := by rw [ar_jo hsN]; exact hj.mpr hb
      rw [if_pos hb]
      by_cases hl : y < hi N
      · rw [if_pos hl, if_pos ⟨hsN, har, by omega⟩]; omega
      · rw [if_neg hl, if_neg (fun q => by have := q.2.2; omega)]; exact i1
    · rw [if_neg hb, if_neg (fun q => hb (hj.mp (by rw [← ar_jo q.1]; exact q.2.1)))]
      exact i1
theorem iv_up (G : GR n nb) {s v : Nat} {h hi : Nat → Nat} (hs : s < 2 ^ n) (hv : v < n) (hsv : s.testBit v = false) (hI : IV n nb s h hi) : IV n nb (s ||| 2 ^ v) (upN h v (1 + hbN n nb s h v)) (hiU n nb hi s v) := by
  have hp := pow10 G.1
  have hn := G.1
  have hs2 := or_ltn hs hv
  intro j hj hjb
  have hvb : (s ||| 2 ^ v).testBit v = true := or_t.mpr (Or.inr (pow_t.mpr rfl))
  unfold hiU
  by_cases hc : (hangN n nb v (s ||| 2 ^ v)).testBit j = true
  · rw [if_pos ⟨hj, hc⟩, hang_eq G hs2 hvb hc, hang_tch G hs hv hsv, hh_tall G hs hsv, tall_tch G hs hI]
    refine Nat.le_antisymm ?_ (tall_le (fun i hi hib => ?_))
    · have := tall_ge (n := n) (h := upN h v (1 + hbN n nb s h v)) (s := tchN nb s v ||| 2 ^ v) hv (or_t.mpr (Or.inr (pow_t.mpr rfl)))
      rw [show upN h v (1 + hbN n nb s h v) v = 1 + hbN n nb s h v from if_pos rfl] at this
      exact this
    · unfold upN
      by_cases e : i = v
      · rw [if_pos e]; exact Nat.le_refl _
      · rw [if_neg e]
        rcases or_t.mp hib with q | q
        · have := tall_ge (n := n) (h := h) hi q; omega
        · exact absurd (pow_t.mp q) e
  · rw [if_neg (fun q => hc q.2)]
    have hjs : s.testBit j = true := by
      rcases or_t.mp hjb with q | q
      · exact q
      · rw [pow_t.mp q] at hc; exact absurd (hang_self _ _ _ _) hc
    have hnv : (hangN n nb j (s ||| 2 ^ v)).testBit v = false := Bool.eq_false_iff.mpr (fun g => hc (hang_sym G hs2 hjb g).2)
    have hsame : hangN n nb j s = hangN n nb j (s ||| 2 ^ v) := hang_loc (by omega) (by omega) (by omega) (fun i hi => or_t.mpr (Or.inl hi)) (fun i hi => by
      rcases or_t.mp (hang_sub2 hjb i hi) with q | q
      · exact q
      · rw [pow_t.mp q, hnv] at hi; cases hi)
    rw [hI j hj hjs, hsame]
    refine tall_congr (fun i hi hib => ?_)
    unfold upN
    rw [if_neg (fun e => by rw [e, hnv] at hib; cases hib)]
theorem sd_dj {a b : Nat} (ha : a < 1024) : DJ (sd a b) b := fun i hi => ((sd_t ha).mp hi).2
theorem hle_be (G : GR n nb) {s : Nat} {h hi : Nat → Nat} (hs : s < 2 ^ n) (hI : IV n nb s h hi) (hK : ∀ u, u < 10 → s.testBit u = true → h u ≤ 10) : hleN n nb s h = beT n nb hi s (sd (2 ^ n - 1) s) := by
  have hp := pow10 G.1
  have hn := G.1
  have hp1 : 1 ≤ 2 ^ n := Nat.one_le_two_pow
  have hsl := sd_le (a := 2 ^ n - 1) (b := s)
  exact hl_be G hs (fun v hv hsv => ⟨(tall_tch G hs hI).symm, hb_le hn (by omega) hK⟩) _ _ (Nat.le_refl _) (by omega) (sd_dj (by omega))
theorem up_bd {s v x K : Nat} {h : Nat → Nat} (hK : ∀ u, u < 10 → s.testBit u = true → h u ≤ K) (hx : x ≤ K) : ∀ u, u < 10 → (s ||| 2 ^ v).testBit u = true → upN h v x u ≤ K := fun u hu hb => by
  unfold upN
  by_cases e : u = v
  · rw [if_pos e]; exact hx
  · rw [if_neg e]
    rcases or_t.mp hb with q | q
    · exact hK u hu q
    · exact absurd (pow_t.mp q) e
theorem ok_eq (G : GR n nb) {s v goal : Nat} {h hi : Nat → Nat} (hs : s < 2 ^ n) (hv : v < n) (hI : IV n nb s h hi) (hK : ∀ u, u < 10 → s.testBit u = true → h u ≤ 10) (hgo : goal ≤ 10) : hokN n nb goal s h v = rokN n nb goal hi s v := by
  unfold hokN rokN
  cases hsv : s.testBit v with
  | true => rfl
  | false =>
    have e1 : hhN n nb hi s v = 1 + hbN n nb s h v := by rw [hh_tall G hs hsv, tall_tch G hs hI]; rfl
    rw [e1]
    by_cases hc : 1 + hbN n nb s h v ≤ goal
    · rw [decide_eq_true hc, hle_be G (or_ltn hs hv) (iv_up G hs hv hsv hI) (up_bd hK (by omega))]
    · rw [decide_eq_false hc, Bool.false_and, Bool.false_and]
theorem hgo_eq (G : GR n nb) : hgoN n nb = lhN n nb ∧ hgoN n nb ≤ n := by
  have hp := pow10 G.1
  have hn := G.1
  have hp1 : 1 ≤ 2 ^ n := Nat.one_le_two_pow
  have hz : sd (2 ^ n - 1) 0 = 2 ^ n - 1 := eq_of_bits (fun i => by
    rw [sd_t (by omega)]
    exact ⟨fun h => h.1, fun h => ⟨h, by simp⟩⟩)
  constructor
  · unfold hgoN lhN
    rw [hle_be G (hi := fun _ => 0) (by omega) (fun j hj hb => by simp at hb) (fun u hu hb => by simp at hb), hz]
  · unfold hgoN hleN
    have h1 := hl_bd (n := n) (g := pastN nb 0) (b := hbN n nb 0 (fun _ => 0)) (K := 0) hn (sd (2 ^ n - 1) 0) (sd (2 ^ n - 1) 0) (Nat.le_refl _) (by rw [hz]; omega) (fun v hv hb => tall_le (fun u hu hub => Nat.le_refl _))
    rw [hz, pop_all hn] at h1
    rw [hz]
    omega
def hnx (n : Nat) (nb : Nat → Nat) (goal : Nat) : Nat → (Nat → Nat) → (Nat → Nat) := fun s h => upN h (hpkN n nb goal s h) (1 + hbN n nb s h (hpkN n nb goal s h))
def rnx (n : Nat) (nb : Nat → Nat) (L : Nat) : Nat → (Nat → Nat) → (Nat → Nat) := fun s hi => hiU n nb hi s (rpkN n nb L hi s)
def rpk2 (n : Nat) (nb : Nat → Nat) (L : Nat) : Nat → (Nat → Nat) → Nat := fun s hi => rpkN n nb L hi s
/-- the vertex at place j by height -/
def hrow (n : Nat) (nb : Nat → Nat) (j : Nat) : Nat := rwV2 (hpkN n nb (hgoN n nb)) (hnx n nb (hgoN n nb)) (fun _ => 0) j
def HVI (n : Nat) (nb : Nat → Nat) (goal s : Nat) (h hi : Nat → Nat) : Prop := s < 2 ^ n ∧ IV n nb s h hi ∧ (∀ u, u < 10 → s.testBit u = true → h u ≤ goal) ∧ hleN n nb s h ≤ goal
theorem high_one (G : GR n nb) {goal s : Nat} {h hi : Nat → Nat} (hgo : goal ≤ 10) (hI : HVI n nb goal s h hi) (hne : s ≠ 2 ^ n - 1) : hpkN n nb goal s h < n ∧ s.testBit (hpkN n nb goal s h) = false ∧ rpkN n nb goal hi s = hpkN n nb goal s h ∧ HVI n nb goal (s ||| 2 ^ hpkN n nb goal s h) (hnx n nb goal s h) (hiU n nb hi s (hpkN n nb goal s h)) := by
  have hp := pow10 G.1
  have hn := G.1
  have hp1 : 1 ≤ 2 ^ n := Nat.one_le_two_pow
  obtain ⟨hs, hV, hK, hL⟩ := hI
  have hK10 : ∀ u, u < 10 → s.testBit u = true → h u ≤ 10 := fun u hu hb => by have := hK u hu hb; omega
  have hsl := sd_le (a := 2 ^ n - 1) (b := s)
  have hS0 : sd (2 ^ n - 1) s ≠ 0 := fun g => hne (by
    refine eq_of_bits (fun i => ⟨fun q => all_t.mpr (bit_ltn hs q), fun q => ?_⟩)
    cases hb : s.testBit i with
    | true => rfl
    | false =>
      have : (sd (2 ^ n - 1) s).testBit i = true := (sd_t (by omega)).mpr ⟨q, hb⟩
      rw [g] at this; simp at this)
  obtain ⟨v, v1, v2, v3⟩ := h_step G hs hK10 _ (sd (2 ^ n - 1) s) (Nat.le_refl _) (by omega) (sd_dj (by omega)) hS0
  obtain ⟨v4, v5⟩ := (sd_t (by omega)).mp v1
  have hvn := all_t.mp v4
  have hLe : LhN n nb s h (sd (2 ^ n - 1) s) ≤ goal := hL
  have hsd : sd (sd (2 ^ n - 1) s) (2 ^ v) = sd (2 ^ n - 1) (s ||| 2 ^ v) := eq_of_bits (fun i => by
    rw [sd_t (sd_lt (by omega)), sd_t (by omega), sd_t (by omega)]
    constructor
    · rintro ⟨⟨a, b⟩, c⟩
      refine ⟨a, Bool.eq_false_iff.mpr (fun g => ?_)⟩
      rcases or_t.mp g with g | g
      · rw [g] at b; cases b
      · rw [g] at c; cases c
    · rintro ⟨a, b⟩
      exact ⟨⟨a, Bool.eq_false_iff.mpr (fun g => by rw [or_t.mpr (Or.inl g)] at b; cases b)⟩, Bool.eq_false_iff.mpr (fun g => by rw [or_t.mpr (Or.inr g)] at b; cases b)⟩)
  have hokv : hokN n nb goal s h v = true := by
    unfold hokN
    rw [v5, decide_eq_true (show 1 + hbN n nb s h v ≤ goal by omega)]
    rw [hsd] at v3
    rw [decide_eq_true (show hleN n nb (s ||| 2 ^ v) (upN h v (1 + hbN n nb s h v)) ≤ goal from Nat.le_trans v3 hLe)]
    rfl
  obtain ⟨a1, a2, a3, a4⟩ := firstV_all (p := hokN n nb goal s h) (n - 1) 0
  change hpkN n nb goal s h ≤ 0 + (n - 1) at a1
  change hpkN n nb goal s h < 0 + (n - 1) → hokN n nb goal s h (hpkN n nb goal s h) = true at a3
  change ∀ w, 0 ≤ w → w < hpkN n nb goal s h → hokN n nb goal s h w = false at a4
  generalize hP : hpkN n nb goal s h = P at a1 a3 a4
  have hPv : P ≤ v := by
    rcases Nat.lt_or_ge v P with g | g
    · have := a4 v (Nat.zero_le _) g
      rw [hokv] at this; cases this
    · exact g
  have hPn : P < n := by omega
  have hokP : hokN n nb goal s h P = true := by
    rcases Nat.lt_or_ge P (n - 1) with g | g
    · exact a3 (by omega)
    · rw [show P = v by omega]; exact hokv
  obtain ⟨b1, b2, b3, b4⟩ := firstV_all (p := rokN n nb goal hi s) n 0
  change rpkN n nb goal hi s ≤ 0 + n at b1
  change rpkN n nb goal hi s < 0 + n → rokN n nb goal hi s (rpkN n nb goal hi s) = true at b3
  change ∀ w, 0 ≤ w → w < rpkN n nb goal hi s → rokN n nb goal hi s w = false at b4
  generalize hQ : rpkN n nb goal hi s = Q at b1 b3 b4
  have heq : ∀ w, w < n → hokN n nb goal s h w = rokN n nb goal hi s w := fun w hw => ok_eq G hs hw hV hK10 hgo
  have hQP : Q = P := by
    rcases Nat.lt_trichotomy Q P with g | g | g
    · have h1 := a4 Q (Nat.zero_le _) g
      rw [heq Q (by omega), b3 (by omega)] at h1; cases h1
    · exact g
    · have h1 := b4 P (Nat.zero_le _) g
      rw [← heq P hPn, hokP] at h1; cases h1
  unfold hokN at hokP
  rw [Bool.and_eq_true, Bool.and_eq_true, decide_eq_true_eq, decide_eq_true_eq] at hokP
  obtain ⟨c1, c2, c3⟩ := hokP
  have hsP : s.testBit P = false := by
    revert c1
    cases s.testBit P <;> simp
  have hnxe : hnx n nb goal s h = upN h P (1 + hbN n nb s h P) := by unfold hnx; rw [hP]
  refine ⟨hPn, hsP, hQP, or_ltn hs hPn, ?_, ?_, ?_⟩
  · rw [hnxe]; exact iv_up G hs hPn hsP hV
  · rw [hnxe]; exact up_bd hK c2
  · rw [hnxe]; exact c3
theorem high_all (G : GR n nb) : ∀ k, k ≤ n → HVI n nb (hgoN n nb) (stS (hpkN n nb (hgoN n nb)) (hnx n nb (hgoN n nb)) (fun _ => 0) k).1 (stS (hpkN n nb (hgoN n nb)) (hnx n nb (hgoN n nb)) (fun _ => 0) k).2 (stS (rpk2 n nb (lhN n nb)) (rnx n nb (lhN n nb)) (fun _ => 0) k).2 ∧ (stS (rpk2 n nb (lhN n nb)) (rnx n nb (lhN n nb)) (fun _ => 0) k).1 = (stS (hpkN n nb (hgoN n nb)) (hnx n nb (hgoN n nb)) (fun _ => 0) k).1 ∧ pop (stS (hpkN n nb (hgoN n nb)) (hnx n nb (hgoN n nb)) (fun _ => 0) k).1 = k := by
  have hp := pow10 G.1
  have hn := G.1
  have hp1 : 1 ≤ 2 ^ n := Nat.one_le_two_pow
  obtain ⟨g1, g2⟩ := hgo_eq G
  rw [← g1]
  intro k
  induction k with
  | zero =>
    intro _
    refine ⟨⟨show 0 < 2 ^ n by omega, fun j hj hb => ?_, fun u hu hb => Nat.zero_le _, Nat.le_refl _⟩, rfl, by show pop 0 = 0; decide⟩
    change (0 : Nat).testBit j = true at hb
    simp at hb
  | succ k ih =>
    intro hk
    obtain ⟨i1, i2, i3⟩ := ih (by omega)
    generalize hq : stS (hpkN n nb (hgoN n nb)) (hnx n nb (hgoN n nb)) (fun _ => 0) k = q at i1 i2 i3
    generalize hr : stS (rpk2 n nb (hgoN n nb)) (rnx n nb (hgoN n nb)) (fun _ => 0) k = r at i1 i2
    have e1 : stS (hpkN n nb (hgoN n nb)) (hnx n nb (hgoN n nb)) (fun _ => 0) (k + 1) = (q.1 ||| 2 ^ hpkN n nb (hgoN n nb) q.1 q.2, hnx n nb (hgoN n nb) q.1 q.2) := by rw [← hq]; rfl
    have e2 : stS (rpk2 n nb (hgoN n nb)) (rnx n nb (hgoN n nb)) (fun _ => 0) (k + 1) = (r.1 ||| 2 ^ rpkN n nb (hgoN n nb) r.2 r.1, hiU n nb r.2 r.1 (rpkN n nb (hgoN n nb) r.2 r.1)) := by rw [← hr]; rfl
    rw [e1, e2, i2]
    have hne : q.1 ≠ 2 ^ n - 1 := fun g => by rw [g, pop_all hn] at i3; omega
    obtain ⟨s1, s2, s3, s4⟩ := high_one G (by omega) i1 hne
    rw [s3]
    refine ⟨s4, rfl, ?_⟩
    have hl := i1.1
    show pop (q.1 ||| 2 ^ hpkN n nb (hgoN n nb) q.1 q.2) = k + 1
    rw [pop_or (by omega) (by omega) s2, i3]
theorem high_at (G : GR n nb) {k : Nat} (hk : k < n) : hrow n nb k < n ∧ (setR (hrow n nb) k).testBit (hrow n nb k) = false ∧ rwV2 (rpk2 n nb (lhN n nb)) (rnx n nb (lhN n nb)) (fun _ => 0) k = hrow n nb k := by
  have hp := pow10 G.1
  have hn := G.1
  obtain ⟨i1, i2, i3⟩ := high_all G k (by omega)
  obtain ⟨g1, g2⟩ := hgo_eq G
  have hne : (stS (hpkN n nb (hgoN n nb)) (hnx n nb (hgoN n nb)) (fun _ => 0) k).1 ≠ 2 ^ n - 1 := fun g => by rw [g, pop_all hn] at i3; omega
  obtain ⟨s1, s2, s3, s4⟩ := high_one G (by omega) i1 hne
  refine ⟨s1, ?_, ?_⟩
  · have hs := st_set (pk := hpkN n nb (hgoN n nb)) (nx := hnx n nb (hgoN n nb)) (a0 := fun _ => 0) k
    have s2' : (stS (hpkN n nb (hgoN n nb)) (hnx n nb (hgoN n nb)) (fun _ => 0) k).1.testBit (hrow n nb k) = false := s2
    rw [hs] at s2'
    exact s2'
  · show rpkN n nb (lhN n nb) (stS (rpk2 n nb (lhN n nb)) (rnx n nb (lhN n nb)) (fun _ => 0) k).2 (stS (rpk2 n nb (lhN n nb)) (rnx n nb (lhN n nb)) (fun _ => 0) k).1 = _
    rw [i2, ← g1]
    rw [← g1] at s3
    exact s3
theorem high_ord (G : GR n nb) : ORD n (hrow n nb) := ord_of (fun _ hj => (high_at G hj).1) (fun _ hk => (high_at G hk).2.1)
theorem hay_row {g : Nat → Int32} {j : Nat} (hj : j < n) : (hayN n nb g).2.2 j = nI (hrow n nb j) := by
  have h := (row_st (pk := hpkN n nb (hgoN n nb)) (nx := hnx n nb (hgoN n nb)) (a0 := fun _ => 0) (g := g) n).2.2 j
  rw [if_pos hj] at h
  exact h
theorem rhy_row (G : GR n nb) {g : Nat → Int32} {j : Nat} (hj : j < n) : (rhyN n nb g n).2.2 j = nI (hrow n nb j) := by
  have h := (row_st (pk := rpk2 n nb (lhN n nb)) (nx := rnx n nb (lhN n nb)) (a0 := fun _ => 0) (g := g) n).2.2 j
  rw [if_pos hj, (high_at G hj).2.2] at h
  exact h
theorem rhy_ex (G : GR n nb) {g : Nat → Int32} : ∀ k, k < n → rpkN n nb (lhN n nb) (rhyN n nb g k).2.1 (rhyN n nb g k).1 < n := by
  intro k hk
  obtain ⟨h1, h2, _⟩ := row_st (pk := rpk2 n nb (lhN n nb)) (nx := rnx n nb (lhN n nb)) (a0 := fun _ => 0) (g := g) k
  have h3 := (high_at G hk).2.2
  have h4 := (high_at G hk).1
  rw [← h3] at h4
  change (rhyN n nb g k).1 = _ at h1
  change (rhyN n nb g k).2.1 = _ at h2
  rw [h1, h2]
  exact h4
end GG
