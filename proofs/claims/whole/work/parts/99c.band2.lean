/-! the class's bands -/
theorem bg_step {c : Nat → Nat → Nat} {kind s : Nat} {T : Nat → Nat} {m0 : Nat} : ∀ N, forN (bgS c kind s T) N m0 ≤ m0 ∧ ∀ v, v < N → s.testBit v = false → forN (bgS c kind s T) N m0 ≤ comb kind (c s v) (T (s ||| 2 ^ v)) := by
  intro N
  induction N with
  | zero => exact ⟨Nat.le_refl _, fun v hv => absurd hv (Nat.not_lt_zero _)⟩
  | succ N ih =>
    obtain ⟨i1, i2⟩ := ih
    generalize hq : forN (bgS c kind s T) N m0 = q at i1 i2
    have e : forN (bgS c kind s T) (N + 1) m0 = bgS c kind s T N q := by rw [← hq]; rfl
    rw [e]
    unfold bgS
    cases hb : s.testBit N with
    | true =>
      rw [if_pos rfl]
      refine ⟨i1, fun v hv h0 => ?_⟩
      by_cases ev : v = N
      · rw [ev, hb] at h0; cases h0
      · exact i2 v (by omega) h0
    | false =>
      rw [if_neg Bool.false_ne_true]
      by_cases hc : comb kind (c s N) (T (s ||| 2 ^ N)) < q
      · rw [if_pos hc]
        refine ⟨by omega, fun v hv h0 => ?_⟩
        by_cases ev : v = N
        · rw [ev]; exact Nat.le_refl _
        · have := i2 v (by omega) h0; omega
      · rw [if_neg hc]
        refine ⟨i1, fun v hv h0 => ?_⟩
        by_cases ev : v = N
        · rw [ev]; omega
        · exact i2 v (by omega) h0
theorem setR_congr {r q : Nat → Nat} {k : Nat} (h : agK k r q) : setR r k = setR q k := eq_of_bits (fun i => by
  rw [setR_t, setR_t]
  constructor
  · rintro ⟨j, hj, e⟩; exact ⟨j, hj, by rw [← h j hj]; exact e⟩
  · rintro ⟨j, hj, e⟩; exact ⟨j, hj, by rw [h j hj]; exact e⟩)
theorem due_congr {nb r q : Nat → Nat} {s : Nat} : ∀ j, agK j r q → dueN nb r s j = dueN nb q s j := by
  intro j
  induction j with
  | zero => intro _; rfl
  | succ j ih =>
    intro h
    have e1 : dueN nb r s (j + 1) = dueN nb r s j ||| sd (nb (r j)) s := rfl
    have e2 : dueN nb q s (j + 1) = dueN nb q s j ||| sd (nb (q j)) s := rfl
    rw [e1, e2, ih (fun i hi => h i (by omega)), h j (by omega)]
theorem room_t {nb r : Nat → Nat} {k s w : Nat} : roomN nb r k s w = true ↔ ∀ i, i < k + 1 → pop (dueN nb r s (i + 1)) ≤ i + w - k := by
  unfold roomN
  suffices h : ∀ j, roomF nb r k s w j = true ↔ ∀ i, i < j → pop (dueN nb r s (i + 1)) ≤ i + w - k from h (k + 1)
  intro j
  induction j with
  | zero => exact ⟨fun _ i hi => absurd hi (Nat.not_lt_zero _), fun _ => rfl⟩
  | succ j ih =>
    have e : roomF nb r k s w (j + 1) = (roomF nb r k s w j && decide (pop (dueN nb r s (j + 1)) ≤ j + w - k)) := rfl
    rw [e, Bool.and_eq_true, ih, decide_eq_true_eq]
    constructor
    · rintro ⟨h1, h2⟩ i hi
      by_cases ei : i = j
      · rw [ei]; exact h2
      · exact h1 i (by omega)
    · intro h
      exact ⟨fun i hi => h i (by omega), h j (by omega)⟩
theorem room_congr {nb r q : Nat → Nat} {k s w : Nat} (h : agK (k + 1) r q) (hr : roomN nb r k s w = true) : roomN nb q k s w = true := by
  rw [room_t] at hr ⊢
  intro i hi
  rw [← due_congr (i + 1) (fun j hj => h j (by omega))]
  exact hr i hi
section GG
variable {n : Nat} {nb : Nat → Nat}
theorem due_t (G : GR n nb) {r : Nat → Nat} {s u : Nat} : ∀ j, (∀ i, i < j → r i < n) → ((dueN nb r s j).testBit u = true ↔ ∃ i, i < j ∧ (nb (r i)).testBit u = true ∧ s.testBit u = false) := by
  have hn := G.1
  intro j
  induction j with
  | zero =>
    intro _
    constructor
    · intro h; simp [dueN, forN] at h
    · rintro ⟨i, hi, _⟩; exact absurd hi (Nat.not_lt_zero _)
  | succ j ih =>
    intro hr
    have e : dueN nb r s (j + 1) = dueN nb r s j ||| sd (nb (r j)) s := rfl
    rw [e, or_t, ih (fun i hi => hr i (by omega)), sd_t (gr_1024 G _ (by have := hr j (by omega); omega))]
    constructor
    · rintro (⟨i, h1, h2⟩ | h)
      · exact ⟨i, by omega, h2⟩
      · exact ⟨j, by omega, h⟩
    · rintro ⟨i, h1, h2⟩
      by_cases ei : i = j
      · right; rw [← ei]; exact h2
      · exact Or.inl ⟨i, by omega, h2⟩
theorem own2_le (G : GR n nb) {ed w k : Nat} {y : Nat → Nat} (hk : k < n) (hy : BVw n nb w y) : ownC n nb ed 2 (setR y k) (y k) ≤ w := by
  have hn := G.1
  have hp := pow10 hn
  have hp1 : 1 ≤ 2 ^ n := Nat.one_le_two_pow
  have hS := (ord_pop hn hy.1.1 (ord_no hy.1) (k + 1) (by omega)).1
  have hC : sd (2 ^ n - 1) (setR y (k + 1)) < 1024 := by have := sd_le (a := 2 ^ n - 1) (b := setR y (k + 1)); omega
  have hout : ∀ u, (sd (2 ^ n - 1) (setR y (k + 1))).testBit u = true → ∃ q, k + 1 ≤ q ∧ q < n ∧ y q = u := fun u hu => by
    obtain ⟨g1, g2⟩ := (sd_t (by omega)).mp hu
    obtain ⟨q, q1, q2, _⟩ := ord_at hn hy.1 (all_t.mp g1)
    refine ⟨q, ?_, q1, q2⟩
    rcases Nat.lt_or_ge q (k + 1) with g | g
    · rw [(setR_t (k + 1)).mpr ⟨q, g, q2⟩] at g2; cases g2
    · exact g
  have a1 : pop (setR y (k + 1) &&& rcN nb (sd (2 ^ n - 1) (setR y (k + 1)))) ≤ (k + 1) - (k + 1 - w) := pop_range hn hy.1 (by omega) (by omega) (fun u hu => by
    obtain ⟨g1, g2⟩ := and_t.mp hu
    obtain ⟨p, p1, p2⟩ := (setR_t (k + 1)).mp g1
    obtain ⟨c, c1, c2⟩ := (rc_t _ hC).mp g2
    obtain ⟨q, q1, q2, q3⟩ := hout c c1
    have := hy.2 q p q2 (by omega) (by rw [q3, p2]; exact c2)
    exact ⟨p, by omega, p1, p2⟩)
  have a2 : pop (sd (2 ^ n - 1) (setR y (k + 1)) &&& rcN nb (setR y (k + 1))) ≤ (if k + w + 1 ≤ n then k + w + 1 else n) - (k + 1) := pop_range hn hy.1 (by split <;> omega) (by split <;> omega) (fun u hu => by
    obtain ⟨g1, g2⟩ := and_t.mp hu
    obtain ⟨q, q1, q2, q3⟩ := hout u g1
    obtain ⟨c, c1, c2⟩ := (rc_t _ (by omega)).mp g2
    obtain ⟨p, p1, p2⟩ := (setR_t (k + 1)).mp c1
    have := hy.2 p q (by omega) q2 (by rw [q3, p2]; exact c2)
    exact ⟨q, q1, by split <;> omega, q3⟩)
  show (if pop (setR y (k + 1) &&& rcN nb (sd (2 ^ n - 1) (setR y (k + 1)))) < pop (sd (2 ^ n - 1) (setR y (k + 1)) &&& rcN nb (setR y (k + 1))) then pop (sd (2 ^ n - 1) (setR y (k + 1)) &&& rcN nb (setR y (k + 1))) else pop (setR y (k + 1) &&& rcN nb (sd (2 ^ n - 1) (setR y (k + 1))))) ≤ w
  split at a2 <;> split <;> omega
theorem bg2_le (G : GR n nb) {ed w : Nat} {y : Nat → Nat} (hy : BVw n nb w y) : ∀ d k, k + d = n → bgN (ownC n nb ed 2) n 2 (setR y k) ≤ w := by
  have hn := G.1
  have hp := pow10 hn
  intro d
  induction d with
  | zero =>
    intro k hk
    have hkn : k = n := by omega
    have h1 := ord_pop hn hy.1.1 (ord_no hy.1) k (by omega)
    have hall : setR y k = 2 ^ n - 1 := by
      refine eq_of_bits (fun i => ⟨fun hi => all_t.mpr (bit_ltn h1.1 hi), fun hi => ?_⟩)
      obtain ⟨q, q1, q2, _⟩ := ord_at hn hy.1 (all_t.mp hi)
      exact (setR_t k).mpr ⟨q, by omega, q2⟩
    rw [bgN_eq h1.1]
    have := (bg_step (c := ownC n nb ed 2) (kind := 2) (s := setR y k) (T := bgN (ownC n nb ed 2) n 2) (m0 := if setR y k = 2 ^ n - 1 then 0 else 1000) n).1
    rw [if_pos hall] at this
    rw [if_pos hall]
    omega
  | succ d ih =>
    intro k hk
    have h1 := ord_pop hn hy.1.1 (ord_no hy.1) k (by omega)
    have i1 := ih (k + 1) (by omega)
    rw [bgN_eq h1.1]
    have h2 := (bg_step (c := ownC n nb ed 2) (kind := 2) (s := setR y k) (T := bgN (ownC n nb ed 2) n 2) (m0 := if setR y k = 2 ^ n - 1 then 0 else 1000) n).2 (y k) (hy.1.1 k (by omega)) (ord_no hy.1 k (by omega))
    have h3 := own2_le G (ed := ed) (k := k) (by omega) hy
    rw [setR_s] at i1
    unfold comb at h2
    rw [if_neg (show ¬ (2 : Nat) = 4 by decide)] at h2
    generalize forN (bgS (ownC n nb ed 2) 2 (setR y k) (bgN (ownC n nb ed 2) n 2)) n (if setR y k = 2 ^ n - 1 then 0 else 1000) = z at h2 ⊢
    split at h2 <;> omega
theorem bok_nec (G : GR n nb) {ed w k : Nat} {y : Nat → Nat} (hk : k < n) (hy : BVw n nb w y) : bokN n nb ed w (setR y k) (y k) = true := by
  unfold bokN
  rw [ord_no hy.1 k hk]
  have h1 := own2_le G (ed := ed) hk hy
  have h2 := bg2_le G (ed := ed) hy (n - (k + 1)) (k + 1) (by omega)
  rw [setR_s] at h2
  have h3 : comb 2 (ownC n nb ed 2 (setR y k) (y k)) (bgN (ownC n nb ed 2) n 2 (setR y k ||| 2 ^ y k)) ≤ w := by
    unfold comb
    rw [if_neg (by decide)]
    split <;> omega
  rw [decide_eq_true h3]; rfl
theorem room_nec (G : GR n nb) {w k : Nat} {y q : Nat → Nat} (hk : k < n) (hy : BVw n nb w y) (ha : agK (k + 1) q y) : roomN nb q k (setR y (k + 1)) w = true := by
  have hn := G.1
  have hp := pow10 hn
  refine room_congr (r := y) (fun j hj => (ha j hj).symm) ?_
  rw [room_t]
  intro i hi
  have hS := (ord_pop hn hy.1.1 (ord_no hy.1) (k + 1) (by omega)).1
  have hmem : ∀ u, (dueN nb y (setR y (k + 1)) (i + 1)).testBit u = true → ∃ p, k + 1 ≤ p ∧ p < n ∧ y p = u ∧ p ≤ i + w := fun u hu => by
    obtain ⟨i', h1, h2, h3⟩ := (due_t G (i + 1) (fun j hj => hy.1.1 j (by omega))).mp hu
    obtain ⟨p, p1, p2, _⟩ := ord_at hn hy.1 (gr_lt G (hy.1.1 i' (by omega)) h2)
    have := hy.2 i' p (by omega) p1 (by rw [p2]; exact h2)
    refine ⟨p, ?_, p1, p2, by omega⟩
    rcases Nat.lt_or_ge p (k + 1) with g | g
    · rw [(setR_t (k + 1)).mpr ⟨p, g, p2⟩] at h3; cases h3
    · exact g
  rcases Nat.lt_or_ge (i + w) k with g | g
  · have hz : dueN nb y (setR y (k + 1)) (i + 1) = 0 := eq_of_bits (fun u => ⟨fun hu => by
      obtain ⟨p, p1, p2, p3, p4⟩ := hmem u hu
      omega, fun hu => by simp at hu⟩)
    rw [hz, show pop 0 = 0 by decide]
    exact Nat.zero_le _
  · have := pop_range hn hy.1 (a := k + 1) (b := if i + w + 1 ≤ n then i + w + 1 else n) (X := dueN nb y (setR y (k + 1)) (i + 1)) (by split <;> omega) (by split <;> omega) (fun u hu => by
      obtain ⟨p, p1, p2, p3, p4⟩ := hmem u hu
      exact ⟨p, p1, by split <;> omega, p3⟩)
    split at this <;> omega
/-- a row all of whose beginnings had room is a band -/
theorem room_full (G : GR n nb) {w : Nat} {r : Nat → Nat} (hr : ORD n r) (h : ∀ k, k < n → roomN nb r k (setR r (k + 1)) w = true) : BVw n nb w r := by
  have hn := G.1
  have hp := pow10 hn
  have key : ∀ i j, i < n → j < n → i < j → (nb (r i)).testBit (r j) = true → j ≤ i + w := by
    intro i j hi hj hij hb
    rcases Nat.lt_or_ge (i + w) j with g | g
    · exfalso
      have h1 := (room_t.mp (h (i + w) (by omega))) i (by omega)
      have h2 : (dueN nb r (setR r (i + w + 1)) (i + 1)).testBit (r j) = true := (due_t G (i + 1) (fun l hl => hr.1 l (by omega))).mpr ⟨i, by omega, hb, Bool.eq_false_iff.mpr (fun hg => by
        obtain ⟨l, l1, l2⟩ := (setR_t _).mp hg
        have := hr.2 l j (by omega) hj l2
        omega)⟩
      have h3 : pop (dueN nb r (setR r (i + w + 1)) (i + 1)) = 0 := by omega
      rw [pop_0 (due_lt (gr_1024 G) (fun l hl => by have := hr.1 l (by omega); omega))] at h3
      rw [h3] at h2
      simp at h2
    · exact g
  refine ⟨hr, fun i j hi hj hb => ?_⟩
  rcases Nat.lt_trichotomy i j with g | g | g
  · have := key i j hi hj g hb; omega
  · omega
  · have := key j i hj hi g (gr_sym G (hr.1 i hi) hb); omega
theorem band_main (G : GR n nb) {ed w : Nat} : ∀ f k r, k + f = n → PRk n k r → (∀ k', k' < k → roomN nb r k' (setR r (k' + 1)) w = true) → ((bandF n nb ed w f k (setR r k) r).1 = true → LLk n (BVw n nb w) k 0 r (bandF n nb ed w f k (setR r k) r).2) ∧ ((bandF n nb ed w f k (setR r k) r).1 = false → agK k r (bandF n nb ed w f k (setR r k) r).2 ∧ ∀ y, BVw n nb w y → ¬ agK k r y)
  | 0, k, r, hk, hp, hrm => by
    have hkn : k = n := by omega
    refine ⟨fun _ => ?_, fun h => (by cases h)⟩
    refine ⟨?_, fun j hj => rfl, fun h => by omega, fun y hy ha _ => Or.inl (by rw [← hkn]; exact ha)⟩
    subst hkn
    exact room_full G hp hrm
  | f + 1, k, r, hk, hp, hrm => by
    have hn := G.1
    obtain ⟨a, b⟩ := bandV_ok (n := n) (k := k) (V := BVw n nb w) (r := r) (ok := bokN n nb ed w (setR r k)) (room := fun q v => roomN nb q k (setR r k ||| 2 ^ v) w) (rc := fun v q => bandF n nb ed w f (k + 1) (setR r k ||| 2 ^ v) q) (by omega) (fun y hy => hy.1.1) (fun y hy ha => by
      rw [setR_congr ha]
      exact bok_nec G (by omega) hy) (fun y q hy ha hq => by
      show roomN nb q k (setR r k ||| 2 ^ y k) w = true
      rw [setR_congr ha, ← setR_s]
      exact room_nec G (by omega) hy hq) (fun v q hv hok ha hqk hrq => by
      have hs : setR q (k + 1) = setR r k ||| 2 ^ v := by rw [setR_s, hqk, setR_congr ha]
      have hrq : roomN nb q k (setR r k ||| 2 ^ v) w = true := hrq
      have hbit : (setR r k).testBit v = false := by
        unfold bokN at hok
        rw [Bool.and_eq_true] at hok
        cases hg : (setR r k).testBit v with
        | false => rfl
        | true => rw [hg] at hok; exact absurd hok.1 (by decide)
      have hpq : PRk n (k + 1) q := by
        refine ⟨fun j hj => ?_, fun i j hi hj g => ?_⟩
        · by_cases e : j = k
          · rw [e, hqk]; exact hv
          · rw [← ha j (by omega)]; exact hp.1 j (by omega)
        · have hno : ∀ l, l < k → q l ≠ v := fun l hl g => by
            rw [(setR_t k).mpr ⟨l, hl, by rw [ha l hl]; exact g⟩] at hbit; cases hbit
          by_cases e1 : i = k <;> by_cases e2 : j = k
          · omega
          · rw [e1, hqk] at g; exact absurd g.symm (hno j (by omega))
          · rw [e2, hqk] at g; exact absurd g (hno i (by omega))
          · rw [← ha i (by omega), ← ha j (by omega)] at g; exact hp.2 i j (by omega) (by omega) g
      have := band_main G (ed := ed) (w := w) f (k + 1) q (by omega) hpq (fun k' hk' => by
        by_cases e : k' = k
        · rw [e, hs]; exact hrq
        · have hagree : agK (k' + 1) r q := fun j hj => ha j (by omega)
          rw [← setR_congr hagree]
          exact room_congr hagree (hrm k' (by omega)))
      rw [hs] at this
      exact this) n 0 r (Nat.zero_add _) (fun j hj => rfl)
    refine ⟨fun h => a h, fun h => ⟨(b h).1, fun y hy ha => ?_⟩⟩
    have := (b h).2 y hy ha
    omega
theorem least_of {P : Nat → Prop} : ∀ w, P w → ∃ w0, w0 ≤ w ∧ P w0 ∧ ∀ u, u < w0 → ¬ P u := by
  intro w
  induction w using Nat.strongRecOn with
  | ind w ih =>
    intro h
    by_cases g : ∃ u, u < w ∧ P u
    · obtain ⟨u, h1, h2⟩ := g
      obtain ⟨w0, a, b, c⟩ := ih u h1 h2
      exact ⟨w0, by omega, b, c⟩
    · exact ⟨w, Nat.le_refl _, h, fun u hu hp => g ⟨u, hu, hp⟩⟩
theorem bandW_main (G : GR n nb) {ed w0 : Nat} {y0 : Nat → Nat} (hw0 : w0 < n) (hy0 : BVw n nb w0 y0) (hno : ∀ u, u < w0 → ∀ y, ¬ BVw n nb u y) : ∀ f w r, w ≤ w0 → n ≤ w + f → (bandW n nb ed f w r).1 = w0 ∧ LLk n (BVw n nb w0) 0 0 r (bandW n nb ed f w r).2 := by
  intro f
  induction f with
  | zero => intro w r h1 h2; omega
  | succ f ih =>
    intro w r h1 h2
    have e : bandW n nb ed (f + 1) w r = if w < n then (if (bandF n nb ed w n 0 0 r).1 = true then (w, (bandF n nb ed w n 0 0 r).2) else bandW n nb ed f (w + 1) (bandF n nb ed w n 0 0 r).2) else (w, r) := rfl
    obtain ⟨m1, m2⟩ := band_main G (ed := ed) (w := w) n 0 r (Nat.zero_add _) ⟨fun j hj => absurd hj (Nat.not_lt_zero _), fun i j hi => absurd hi (Nat.not_lt_zero _)⟩ (fun k' hk' => absurd hk' (Nat.not_lt_zero _))
    have hz : setR r 0 = 0 := rfl
    rw [hz] at m1 m2
    rw [e, if_pos (by omega)]
    by_cases hx : (bandF n nb ed w n 0 0 r).1 = true
    · rw [if_pos hx]
      have hL := m1 hx
      have hw : w = w0 := by
        rcases Nat.lt_or_ge w w0 with g | g
        · exact absurd hL.1 (hno w g _)
        · omega
      rw [hw] at hL ⊢
      exact ⟨rfl, hL⟩
    · rw [if_neg hx]
      obtain ⟨d1, d2⟩ := m2 (Bool.eq_false_iff.mpr hx)
      have hw : w ≠ w0 := fun g => by
        rw [g] at d2
        exact d2 y0 hy0 (fun j hj => absurd hj (Nat.not_lt_zero _))
      obtain ⟨r1, r2⟩ := ih (w + 1) (bandF n nb ed w n 0 0 r).2 (by omega) (by omega)
      exact ⟨r1, r2.1, fun j hj => absurd hj (Nat.not_lt_zero _), r2.2.2.1, fun y hy _ hle => r2.2.2.2 y hy (fun j hj => absurd hj (Nat.not_lt_zero _)) hle⟩
/-- both sides lay the same band -/
theorem band_eq (G : GR n nb) {ed : Nat} (hn1 : 1 ≤ n) : ∃ w0 x0, w0 < n ∧ bsF n nb w0 n 0 (fun _ => 0) = some x0 ∧ (∀ w, w < w0 → bsF n nb w n 0 (fun _ => 0) = none) ∧ ORD n x0 ∧ ∀ r, (bandW n nb ed n (bgN (ownC n nb ed 2) n 2 0) r).1 = w0 ∧ ∀ j, j < n → (bandW n nb ed n (bgN (ownC n nb ed 2) n 2 0) r).2 j = x0 j := by
  have hid : BVw n nb (n - 1) (fun j => j) := ⟨⟨fun j hj => hj, fun i j _ _ g => g⟩, fun i j hi hj _ => by omega⟩
  obtain ⟨w0, l1, ⟨y0, l2⟩, l3⟩ := least_of (P := fun w => ∃ y, BVw n nb w y) (n - 1) ⟨_, hid⟩
  have hno : ∀ u, u < w0 → ∀ y, ¬ BVw n nb u y := fun u hu y hy => l3 u hu ⟨y, hy⟩
  have hst : bgN (ownC n nb ed 2) n 2 0 ≤ w0 := bg2_le G (ed := ed) l2 n 0 (Nat.zero_add _)
  have hm : ∀ w, (∀ x, bsF n nb w n 0 (fun _ => 0) = some x → LLk n (BVw n nb w) 0 0 (fun _ => 0) x) ∧ (bsF n nb w n 0 (fun _ => 0) = none → ∀ y, BVw n nb w y → ¬ agK 0 (fun _ => 0) y) := fun w => bs_main G (w := w) n 0 (fun _ => 0) (Nat.zero_add _) ⟨fun j hj => absurd hj (Nat.not_lt_zero _), fun i j hi => absurd hi (Nat.not_lt_zero _)⟩ (fun h => by omega)
  cases hx : bsF n nb w0 n 0 (fun _ => 0) with
  | none => exact absurd (fun j hj => absurd hj (Nat.not_lt_zero _)) ((hm w0).2 hx y0 l2)
  | some x0 =>
    have hL := (hm w0).1 x0 hx
    refine ⟨w0, x0, by omega, hx, fun w hw => ?_, hL.1.1, fun r => ?_⟩
    · cases hx2 : bsF n nb w n 0 (fun _ => 0) with
      | none => rfl
      | some x => exact absurd ((hm w).1 x hx2).1 (hno w hw x)
    · obtain ⟨b1, b2⟩ := bandW_main G (ed := ed) (by omega) l2 hno n (bgN (ownC n nb ed 2) n 2 0) r hst (by omega)
      exact ⟨b1, fun j hj => LL_uniq b2 hL j hj⟩
end GG
theorem band_0 {nb : Nat → Nat} {ed : Nat} {r : Nat → Nat} : (bandW 0 nb ed 0 (bgN (ownC 0 nb ed 2) 0 2 0) r).1 = 0 := rfl
