/-! one more ahead keeps the least height -/
theorem hang_mono {n : Nat} {nb : Nat → Nat} {u X Y : Nat} (hu : u < 10) (hX : X < 1024) (hYX : subS Y X) : subS (hangN n nb u Y) (hangN n nb u X) := fun i h => hang_min (C := fun i => (hangN n nb u X).testBit i = true) (hang_self _ _ _ _) (fun _ i hk hc hi hs => hang_closed hu hX hk hc hi (hYX i hs)) i h
section GG
variable {n : Nat} {nb : Nat → Nat}
/-- the least height of S behind s -/
def LhN (n : Nat) (nb : Nat → Nat) (s : Nat) (h : Nat → Nat) (S : Nat) : Nat := hlN n (pastN nb s) (hbN n nb s h) S
theorem Lh_one (G : GR n nb) {s S : Nat} {h : Nat → Nat} (hs : s < 2 ^ n) (hS : S < 2 ^ n) (hd : DJ S s) (h0 : S ≠ 0) (h1 : cmpN n nb s S (low S) = S) : LhN n nb s h S = 1 + lbN n (hbN n nb s h) (LhN n nb s h) S := by
  have hp := pow10 G.1
  unfold LhN
  rw [hl_fold (by omega) h0, pc_cm G hs hS hd h0, if_pos h1]
theorem Lh_two (G : GR n nb) {s S : Nat} {h : Nat → Nat} (hs : s < 2 ^ n) (hS : S < 2 ^ n) (hd : DJ S s) (h0 : S ≠ 0) (h1 : ¬ cmpN n nb s S (low S) = S) : LhN n nb s h S = if LhN n nb s h (cmpN n nb s S (low S)) < LhN n nb s h (sd S (cmpN n nb s S (low S))) then LhN n nb s h (sd S (cmpN n nb s S (low S))) else LhN n nb s h (cmpN n nb s S (low S)) := by
  have hp := pow10 G.1
  unfold LhN
  rw [hl_fold (by omega) h0, pc_cm G hs hS hd h0, if_neg h1]
theorem Lh_0 {s : Nat} {h : Nat → Nat} : LhN n nb s h 0 = 0 := hl_0
theorem cm_rest (G : GR n nb) {s S u x : Nat} (hs : s < 2 ^ n) (hS : S < 2 ^ n) (hd : DJ S s) (hu : S.testBit u = true) (hx : (sd S (cmpN n nb s S u)).testBit x = true) : cmpN n nb s (sd S (cmpN n nb s S u)) x = cmpN n nb s S x := by
  have hp := pow10 G.1
  obtain ⟨b1, b2⟩ := (sd_t (by omega)).mp hx
  exact cm_loc G hs hS (subS_sd (by omega)) hx (fun i hi => (sd_t (by omega)).mpr ⟨cm_sub G hs hS b1 i hi, cm_disj G hs hS hd hu b1 b2 i hi⟩)
theorem comp_le (G : GR n nb) {s : Nat} {h : Nat → Nat} {M : Nat} (hs : s < 2 ^ n) : ∀ N S, S ≤ N → S < 2 ^ n → DJ S s → (∀ u, S.testBit u = true → LhN n nb s h (cmpN n nb s S u) ≤ M) → LhN n nb s h S ≤ M := by
  have hp := pow10 G.1
  intro N
  induction N with
  | zero => intro S hN _ _ _; rw [show S = 0 by omega, Lh_0]; exact Nat.zero_le _
  | succ N ih =>
    intro S hN hS hd hu
    by_cases h0 : S = 0
    · rw [h0, Lh_0]; exact Nat.zero_le _
    · have hlow := low_bit (show S < 1024 by omega) h0
      by_cases hc : cmpN n nb s S (low S) = S
      · have := hu (low S) hlow
        rw [hc] at this; exact this
      · rw [Lh_two G hs hS hd h0 hc]
        have h1 := hu (low S) hlow
        have h2 := sd_lss (show S < 1024 by omega) hlow (cm_self G hs hS hd hlow)
        have h3 := ih (sd S (cmpN n nb s S (low S))) (by omega) (by omega) (dj_sub hd (subS_sd (by omega))) (fun x hx => by
          rw [cm_rest G hs hS hd hlow hx]
          exact hu x (subS_sd (by omega) x hx))
        split <;> omega
theorem le_comp (G : GR n nb) {s : Nat} {h : Nat → Nat} (hs : s < 2 ^ n) : ∀ N S, S ≤ N → S < 2 ^ n → DJ S s → ∀ u, S.testBit u = true → LhN n nb s h (cmpN n nb s S u) ≤ LhN n nb s h S := by
  have hp := pow10 G.1
  intro N
  induction N with
  | zero => intro S hN _ _ u hu; rw [show S = 0 by omega] at hu; simp at hu
  | succ N ih =>
    intro S hN hS hd u hu
    have h0 := bit_ne0 hu
    have hlow := low_bit (show S < 1024 by omega) h0
    by_cases hc : cmpN n nb s S (low S) = S
    · rw [cmp_eq G hs hS hlow (by rw [hc]; exact hu), hc]
      exact Nat.le_refl _
    · rw [Lh_two G hs hS hd h0 hc]
      cases hb : (cmpN n nb s S (low S)).testBit u with
      | true =>
        rw [cmp_eq G hs hS hlow hb]
        split <;> omega
      | false =>
        have hux : (sd S (cmpN n nb s S (low S))).testBit u = true := (sd_t (by omega)).mpr ⟨hu, hb⟩
        have h2 := sd_lss (show S < 1024 by omega) hlow (cm_self G hs hS hd hlow)
        have h3 := ih (sd S (cmpN n nb s S (low S))) (by omega) (by omega) (dj_sub hd (subS_sd (by omega))) u hux
        rw [cm_rest G hs hS hd hlow hux] at h3
        split <;> omega
theorem sd_or_back {S s v : Nat} (hS : S < 1024) (hv : S.testBit v = true) : sd S (2 ^ v) ||| (s ||| 2 ^ v) = S ||| s := eq_of_bits (fun i => by
  rw [or_t, or_t, or_t, sd_t hS, pow_t]
  constructor
  · rintro (h | h | h)
    · exact Or.inl h.1
    · exact Or.inr h
    · rw [h]; exact Or.inl hv
  · rintro (h | h)
    · by_cases e : i = v
      · exact Or.inr (Or.inr e)
      · exact Or.inl ⟨h, Bool.eq_false_iff.mpr (fun g => e (pow_t.mp g))⟩
    · exact Or.inr (Or.inl h))
theorem cm_shift (G : GR n nb) {s S v x : Nat} (hs : s < 2 ^ n) (hS : S < 2 ^ n) (hv : S.testBit v = true) (hx : (sd S (2 ^ v)).testBit x = true) : cmpN n nb (s ||| 2 ^ v) (sd S (2 ^ v)) x = sd (cmpN n nb s S x) (2 ^ v) := by
  have hp := pow10 G.1
  have hxS := subS_sd (show S < 1024 by omega) x hx
  have hs2 := or_ltn hs (bit_ltn hS hv)
  have hcl := sub_ltn hS (cm_sub G hs hS hxS)
  refine eq_of_bits (fun i => ?_)
  rw [cm_t G hs2 (sub_ltn hS (subS_sd (by omega))) hx, sd_or_back (by omega) hv, sd_t (by omega), cm_t G hs hS hxS]
  constructor
  · rintro ⟨h1, h2⟩
    refine ⟨⟨h1, ?_⟩, ?_⟩
    · exact Bool.eq_false_iff.mpr (fun g => by rw [or_t.mpr (Or.inl g)] at h2; cases h2)
    · exact Bool.eq_false_iff.mpr (fun g => by rw [or_t.mpr (Or.inr g)] at h2; cases h2)
  · rintro ⟨⟨h1, h2⟩, h3⟩
    refine ⟨h1, Bool.eq_false_iff.mpr (fun g => ?_)⟩
    rcases or_t.mp g with g | g
    · rw [g] at h2; cases h2
    · rw [g] at h3; cases h3
/-- v is far from X -/
def FAR (n : Nat) (nb : Nat → Nat) (s v X : Nat) : Prop := ∀ x, X.testBit x = true → (hangN n nb x (X ||| (s ||| 2 ^ v))).testBit v = false
theorem far_sub (G : GR n nb) {s v X Y : Nat} (hs : s < 2 ^ n) (hv : v < n) (hX : X < 2 ^ n) (hYX : subS Y X) (h : FAR n nb s v X) : FAR n nb s v Y := fun x hx => Bool.eq_false_iff.mpr (fun g => by
  have hp := pow10 G.1
  have hn := G.1
  have hs2 := or_ltn hs hv
  have h1 := or2_lt hX hs2
  have hxn := bit_ltn hX (hYX x hx)
  have := hang_mono (n := n) (nb := nb) (u := x) (X := X ||| (s ||| 2 ^ v)) (Y := Y ||| (s ||| 2 ^ v)) (by omega) (by omega) (fun i hi => by
    rcases or_t.mp hi with q | q
    · exact or_t.mpr (Or.inl (hYX i q))
    · exact or_t.mpr (Or.inr q)) v g
  rw [h x (hYX x hx)] at this
  cases this)
theorem far_cm (G : GR n nb) {s v X x : Nat} (hs : s < 2 ^ n) (hv : v < n) (hX : X < 2 ^ n) (h : FAR n nb s v X) (hx : X.testBit x = true) : cmpN n nb (s ||| 2 ^ v) X x = cmpN n nb s X x := by
  have hp := pow10 G.1
  have hn := G.1
  have hs2 := or_ltn hs hv
  have h1 := or2_lt hX hs2
  have h2 := or2_lt hX hs
  have hxn := bit_ltn hX hx
  have hfar := h x hx
  have hsame : hangN n nb x (X ||| s) = hangN n nb x (X ||| (s ||| 2 ^ v)) := hang_loc (by omega) (by omega) (by omega) (fun i hi => by
    rcases or_t.mp hi with q | q
    · exact or_t.mpr (Or.inl q)
    · exact or_t.mpr (Or.inr (or_t.mpr (Or.inl q)))) (fun i hi => by
    rcases or_t.mp (hang_sub2 (or_t.mpr (Or.inl hx)) i hi) with q | q
    · exact or_t.mpr (Or.inl q)
    · rcases or_t.mp q with q | q
      · exact or_t.mpr (Or.inr q)
      · rw [pow_t.mp q, hfar] at hi; cases hi)
  refine eq_of_bits (fun i => ?_)
  rw [cm_t G hs2 hX hx, cm_t G hs hX hx, hsame]
  constructor
  · rintro ⟨q1, q2⟩
    exact ⟨q1, Bool.eq_false_iff.mpr (fun g => by rw [or_t.mpr (Or.inl g)] at q2; cases q2)⟩
  · rintro ⟨q1, q2⟩
    refine ⟨q1, Bool.eq_false_iff.mpr (fun g => ?_)⟩
    rcases or_t.mp g with g | g
    · rw [g] at q2; cases q2
    · rw [pow_t.mp g, hfar] at q1; cases q1
theorem far_b (G : GR n nb) {s v X x : Nat} {h : Nat → Nat} {z : Nat} (hs : s < 2 ^ n) (hv : v < n) (hsv : s.testBit v = false) (hX : X < 2 ^ n) (hd : DJ X (s ||| 2 ^ v)) (hf : FAR n nb s v X) (hx : X.testBit x = true) : hbN n nb (s ||| 2 ^ v) (upN h v z) x = hbN n nb s h x := by
  have hp := pow10 G.1
  have hn := G.1
  have hs2 := or_ltn hs hv
  have hxn := bit_ltn hX hx
  have hx2 := hd x hx
  have hxs : s.testBit x = false := Bool.eq_false_iff.mpr (fun g => by rw [or_t.mpr (Or.inl g)] at hx2; cases hx2)
  have hfx : (hangN n nb x (s ||| 2 ^ v ||| 2 ^ x)).testBit v = false := Bool.eq_false_iff.mpr (fun g => by
    have h1 := or2_lt hX hs2
    have := hang_mono (n := n) (nb := nb) (u := x) (X := X ||| (s ||| 2 ^ v)) (Y := s ||| 2 ^ v ||| 2 ^ x) (by omega) (by omega) (fun i hi => by
      rcases or_t.mp hi with q | q
      · exact or_t.mpr (Or.inr q)
      · rw [pow_t.mp q]; exact or_t.mpr (Or.inl hx)) v g
    rw [hf x hx] at this
    cases this)
  have l1 := or_ltn hs2 hxn
  have l2 := or_ltn hs hxn
  have hsame : hangN n nb x (s ||| 2 ^ x) = hangN n nb x (s ||| 2 ^ v ||| 2 ^ x) := hang_loc (by omega) (by omega) (by omega) (fun i hi => by
    rcases or_t.mp hi with q | q
    · exact or_t.mpr (Or.inl (or_t.mpr (Or.inl q)))
    · exact or_t.mpr (Or.inr q)) (fun i hi => by
    rcases or_t.mp (hang_sub2 (or_t.mpr (Or.inr (pow_t.mpr rfl))) i hi) with q | q
    · rcases or_t.mp q with q | q
      · exact or_t.mpr (Or.inl q)
      · rw [pow_t.mp q, hfx] at hi; cases hi
    · exact or_t.mpr (Or.inr q))
  rw [hang_tch G hs hxn hxs, hang_tch G hs2 hxn hx2] at hsame
  have ht : tchN nb (s ||| 2 ^ v) x = tchN nb s x := eq_of_bits (fun i => by
    have hi : (tchN nb s x ||| 2 ^ x).testBit i = true ↔ (tchN nb (s ||| 2 ^ v) x ||| 2 ^ x).testBit i = true := by rw [hsame]
    rw [or_t, or_t] at hi
    constructor
    · intro g
      rcases hi.mpr (Or.inl g) with q | q
      · exact q
      · have := tch_subS G hs2 i g
        rw [pow_t.mp q, hx2] at this; cases this
    · intro g
      rcases hi.mp (Or.inl g) with q | q
      · exact q
      · have := tch_subS G hs i g
        rw [pow_t.mp q, hxs] at this; cases this)
  unfold hbN
  rw [ht]
  refine tall_congr (fun u hu hb => ?_)
  unfold upN
  by_cases e : u = v
  · have := tch_subS G hs u hb
    rw [e, hsv] at this; cases this
  · rw [if_neg e]
theorem far_eq (G : GR n nb) {s v : Nat} {h : Nat → Nat} {z : Nat} (hs : s < 2 ^ n) (hv : v < n) (hsv : s.testBit v = false) : ∀ N X, X ≤ N → X < 2 ^ n → DJ X (s ||| 2 ^ v) → FAR n nb s v X → LhN n nb (s ||| 2 ^ v) (upN h v z) X = LhN n nb s h X := by
  have hp := pow10 G.1
  have hs2 := or_ltn hs hv
  intro N
  induction N with
  | zero => intro X hN _ _ _; rw [show X = 0 by omega, Lh_0, Lh_0]
  | succ N ih =>
    intro X hN hX hd hf
    by_cases h0 : X = 0
    · rw [h0, Lh_0, Lh_0]
    · have hlow := low_bit (show X < 1024 by omega) h0
      have hd1 : DJ X s := fun i hi => Bool.eq_false_iff.mpr (fun g => by have := hd i hi; rw [or_t.mpr (Or.inl g)] at this; cases this)
      have hc := far_cm G hs hv hX hf hlow
      have hcs := cm_sub G hs hX hlow
      by_cases h1 : cmpN n nb s X (low X) = X
      · rw [Lh_one G hs2 hX hd h0 (by rw [hc]; exact h1), Lh_one G hs hX hd1 h0 h1]
        congr 1
        refine lb_congr (fun u hu hub => far_b G hs hv hsv hX hd hf hub) (fun u hu hub => ?_)
        have h2 := sd_lss (show X < 1024 by omega) hub (show (2 ^ u).testBit u = true from pow_t.mpr rfl)
        have h3 : subS (sd X (2 ^ u)) X := subS_sd (by omega)
        exact ih _ (by omega) (by omega) (dj_sub hd h3) (far_sub G hs hv hX h3 hf)
      · rw [Lh_two G hs2 hX hd h0 (by rw [hc]; exact h1), Lh_two G hs hX hd1 h0 h1, hc]
        have h2 := sd_lss (show X < 1024 by omega) hlow (cm_self G hs hX hd1 hlow)
        have hle := subS_le hcs
        have h3 : subS (sd X (cmpN n nb s X (low X))) X := subS_sd (by omega)
        rw [ih (cmpN n nb s X (low X)) (by omega) (by omega) (dj_sub hd hcs) (far_sub G hs hv hX hcs hf), ih (sd X (cmpN n nb s X (low X))) (by omega) (by omega) (dj_sub hd h3) (far_sub G hs hv hX h3 hf)]
theorem hb_up_le (G : GR n nb) {s v u : Nat} {h : Nat → Nat} {M : Nat} (hs : s < 2 ^ n) (hv : v < n) (hsv : s.testBit v = false) (h1 : hbN n nb s h u ≤ M) (h2 : 1 + hbN n nb s h v ≤ M) : hbN n nb (s ||| 2 ^ v) (upN h v (1 + hbN n nb s h v)) u ≤ M := by
  have hp := pow10 G.1
  have hn := G.1
  have hs2 := or_ltn hs hv
  refine tall_le (fun i hi hb => ?_)
  obtain ⟨t1, t2⟩ := (tch_t G hs2).mp hb
  unfold upN
  by_cases e : i = v
  · rw [if_pos e]; exact h2
  · rw [if_neg e]
    have his : s.testBit i = true := by
      rcases or_t.mp t1 with q | q
      · exact q
      · exact absurd (pow_t.mp q) e
    cases hc : (hangN n nb i (s ||| 2 ^ v)).testBit v with
    | true =>
      have h3 := (hang_sym G hs2 t1 hc).2
      rw [hang_tch G hs hv hsv] at h3
      rcases or_t.mp h3 with q | q
      · have := tall_ge (n := n) (h := h) hi q
        unfold hbN at h2
        omega
      · exact absurd (pow_t.mp q) e
    | false =>
      have hsame : hangN n nb i s = hangN n nb i (s ||| 2 ^ v) := hang_loc (by omega) (by omega) (by omega) (fun j hj => or_t.mpr (Or.inl hj)) (fun j hj => by
        rcases or_t.mp (hang_sub2 t1 j hj) with q | q
        · exact q
        · rw [pow_t.mp q, hc] at hj; cases hj)
      have h3 : (tchN nb s u).testBit i = true := (tch_t G hs).mpr ⟨his, by rw [hsame]; exact t2⟩
      have := tall_ge (n := n) (h := h) hi h3
      unfold hbN at h1
      omega
theorem sd_swap {P u v : Nat} (hP : P < 1024) : sd (sd P (2 ^ v)) (2 ^ u) = sd (sd P (2 ^ u)) (2 ^ v) := eq_of_bits (fun i => by
  rw [sd_t (sd_lt hP), sd_t hP, sd_t (sd_lt hP), sd_t hP]
  exact ⟨fun ⟨⟨a, b⟩, c⟩ => ⟨⟨a, c⟩, b⟩, fun ⟨⟨a, b⟩, c⟩ => ⟨⟨a, c⟩, b⟩⟩)
/-- there is always one that may come next -/
theorem h_step (G : GR n nb) {s : Nat} {h : Nat → Nat} (hs : s < 2 ^ n) (hK : ∀ u, u < 10 → s.testBit u = true → h u ≤ 10) : ∀ N S, S ≤ N → S < 2 ^ n → DJ S s → S ≠ 0 → ∃ v, S.testBit v = true ∧ 1 + hbN n nb s h v ≤ LhN n nb s h S ∧ LhN n nb (s ||| 2 ^ v) (upN h v (1 + hbN n nb s h v)) (sd S (2 ^ v)) ≤ LhN n nb s h S := by
  have hn := G.1
  have hp := pow10 hn
  intro N
  induction N with
  | zero => intro S hN _ _ h0; omega
  | succ N ih =>
    intro S hN hS hd h0
    have hlow := low_bit (show S < 1024 by omega) h0
    have hPs := cm_sub G hs hS hlow
    have hself := cm_self G hs hS hd hlow
    have hPeq : ∀ x, (cmpN n nb s S (low S)).testBit x = true → cmpN n nb s S x = cmpN n nb s S (low S) := fun x hx => cmp_eq G hs hS hlow hx
    have hPsing : ∀ x, (cmpN n nb s S (low S)).testBit x = true → cmpN n nb s (cmpN n nb s S (low S)) x = cmpN n nb s S (low S) := fun x hx => cm_single G hs hS hlow hx
    have hPle := le_comp G (h := h) hs S S (Nat.le_refl _) hS hd (low S) hlow
    generalize hPd : cmpN n nb s S (low S) = P at *
    have hPn := sub_ltn hS hPs
    have hPd2 := dj_sub hd hPs
    have hP0 : P ≠ 0 := bit_ne0 hself
    have hPl := subS_le hPs
    have hone := Lh_one G (h := h) hs hPn hPd2 hP0 (hPsing _ (low_bit (by omega) hP0))
    have key : ∃ v, P.testBit v = true ∧ 1 + hbN n nb s h v ≤ LhN n nb s h P ∧ LhN n nb (s ||| 2 ^ v) (upN h v (1 + hbN n nb s h v)) (sd P (2 ^ v)) ≤ LhN n nb s h P := by
      obtain ⟨m1, m2⟩ := lb_spec (n := n) (b := hbN n nb s h) (L := LhN n nb s h) (s := P)
      have hbd : ∀ v, hbN n nb s h v ≤ 10 := fun v => hb_le hn (by omega) hK
      have hsm : lbN n (hbN n nb s h) (LhN n nb s h) P ≤ 20 := by
        have q1 := hl_bd (n := n) (g := pastN nb s) (b := hbN n nb s h) (K := 10) hn P P (Nat.le_refl _) hPn (fun v _ _ => hbd v)
        have q2 := pop_le (s := P) (by omega)
        have q3 : LhN n nb s h P ≤ 10 + pop P := q1
        omega
      rcases m2 with m2 | ⟨u, u1, u2, u3⟩
      · omega
      · have hPu := sd_lss (show P < 1024 by omega) u2 (show (2 ^ u).testBit u = true from pow_t.mpr rfl)
        have hPus : subS (sd P (2 ^ u)) P := subS_sd (by omega)
        by_cases hz : sd P (2 ^ u) = 0
        · refine ⟨u, u2, ?_, ?_⟩
          · rw [hone, u3]; split <;> omega
          · rw [hz, Lh_0]; exact Nat.zero_le _
        · obtain ⟨v, v1, v2, v3⟩ := ih (sd P (2 ^ u)) (by omega) (by omega) (dj_sub hPd2 hPus) hz
          obtain ⟨v4, v5⟩ := (sd_t (by omega)).mp v1
          have hvu : v ≠ u := fun e => by rw [e, pow_t.mpr rfl] at v5; cases v5
          have hvn := bit_ltn hPn v4
          have hsv := hPd2 v v4
          refine ⟨v, v4, ?_, ?_⟩
          · rw [hone, u3]; split <;> omega
          · have hs2 := or_ltn hs hvn
            have hub : (sd P (2 ^ v)).testBit u = true := (sd_t (by omega)).mpr ⟨u2, Bool.eq_false_iff.mpr (fun g => hvu (pow_t.mp g).symm)⟩
            have hPvs : subS (sd P (2 ^ v)) P := subS_sd (by omega)
            have hPv0 := bit_ne0 hub
            have hPvn := sub_ltn hPn hPvs
            have hl2 := low_bit (show sd P (2 ^ v) < 1024 by omega) hPv0
            have hdv : DJ (sd P (2 ^ v)) (s ||| 2 ^ v) := fun i hi => Bool.eq_false_iff.mpr (fun g => by
              obtain ⟨i1, i2⟩ := (sd_t (by omega)).mp hi
              rcases or_t.mp g with g | g
              · rw [hPd2 i i1] at g; cases g
              · rw [g] at i2; cases i2)
            have hc2 : cmpN n nb (s ||| 2 ^ v) (sd P (2 ^ v)) (low (sd P (2 ^ v))) = sd P (2 ^ v) := by
              rw [cm_shift G hs hPn v4 hl2, hPsing _ (hPvs _ hl2)]
            rw [Lh_one G hs2 hPvn hdv hPv0 hc2, hone]
            have w1 := (lb_spec (n := n) (b := hbN n nb (s ||| 2 ^ v) (upN h v (1 + hbN n nb s h v))) (L := LhN n nb (s ||| 2 ^ v) (upN h v (1 + hbN n nb s h v))) (s := sd P (2 ^ v))).1 u u1 hub
            rw [sd_swap (by omega)] at w1
            have w2 := hb_up_le G (u := u) (h := h) (M := lbN n (hbN n nb s h) (LhN n nb s h) P) hs hvn hsv (by rw [u3]; split <;> omega) (by rw [u3]; split <;> omega)
            have w3 : LhN n nb s h (sd P (2 ^ u)) ≤ lbN n (hbN n nb s h) (LhN n nb s h) P := by rw [u3]; split <;> omega
            split at w1 <;> omega
    obtain ⟨v, v1, v2, v3⟩ := key
    have hvS := hPs v v1
    have hvn := bit_ltn hS hvS
    have hsv := hd v hvS
    have hs2 := or_ltn hs hvn
    have hSvs : subS (sd S (2 ^ v)) S := subS_sd (by omega)
    have hdv : DJ (sd S (2 ^ v)) (s ||| 2 ^ v) := fun i hi => Bool.eq_false_iff.mpr (fun g => by
      obtain ⟨i1, i2⟩ := (sd_t (by omega)).mp hi
      rcases or_t.mp g with g | g
      · rw [hd i i1] at g; cases g
      · rw [g] at i2; cases i2)
    refine ⟨v, hvS, by omega, comp_le G hs2 (sd S (2 ^ v)) _ (Nat.le_refl _) (sub_ltn hS hSvs) hdv (fun x hx => ?_)⟩
    obtain ⟨x1, x2⟩ := (sd_t (by omega)).mp hx
    rw [cm_shift G hs hS hvS hx]
    cases hb : (cmpN n nb s S x).testBit v with
    | true =>
      rw [← cmp_eq G hs hS x1 hb, hPeq v v1]
      omega
    | false =>
      have hQs := cm_sub G hs hS x1
      have hQn := sub_ltn hS hQs
      have hsdq : sd (cmpN n nb s S x) (2 ^ v) = cmpN n nb s S x := eq_of_bits (fun i => by
        rw [sd_t (by omega)]
        exact ⟨fun q => q.1, fun q => ⟨q, Bool.eq_false_iff.mpr (fun g => by rw [pow_t.mp g, hb] at q; cases q)⟩⟩)
      rw [hsdq, far_eq G hs hvn hsv _ _ (Nat.le_refl _) hQn (by rw [← hsdq]; exact fun i hi => hdv i (by
        obtain ⟨i1, i2⟩ := (sd_t (by omega)).mp hi
        exact (sd_t (by omega)).mpr ⟨hQs i i1, i2⟩)) (fun y hy => Bool.eq_false_iff.mpr (fun g => by
        have hyS := hQs y hy
        have hyn := bit_ltn hS hyS
        have l1 := or2_lt hS hs
        have g1 := hang_mono (n := n) (nb := nb) (u := y) (X := S ||| s) (Y := cmpN n nb s S x ||| (s ||| 2 ^ v)) (by omega) (by omega) (fun i hi => by
          rcases or_t.mp hi with q | q
          · exact or_t.mpr (Or.inl (hQs i q))
          · rcases or_t.mp q with q | q
            · exact or_t.mpr (Or.inr q)
            · rw [pow_t.mp q]; exact or_t.mpr (Or.inl hvS)) v g
        have g2 : (cmpN n nb s S y).testBit v = true := (cm_t G hs hS hyS).mpr ⟨g1, hsv⟩
        rw [cmp_eq G hs hS x1 hy, hb] at g2
        cases g2))]
      exact le_comp G (h := h) hs S S (Nat.le_refl _) hS hd x x1
end GG
