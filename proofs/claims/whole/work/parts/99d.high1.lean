/-! heights: what hangs together behind some that are ahead -/
def DJ (S a : Nat) : Prop := ∀ i, S.testBit i = true → a.testBit i = false
theorem dj_and {S a : Nat} (h : DJ S a) : S &&& a = 0 := eq_of_bits (fun i => by
  rw [and_t]
  constructor
  · rintro ⟨h1, h2⟩; rw [h i h1] at h2; cases h2
  · intro h; simp at h)
theorem dj_of {S a : Nat} (h : S &&& a = 0) : DJ S a := fun i hi => Bool.eq_false_iff.mpr (fun g => by
  have : (S &&& a).testBit i = true := and_t.mpr ⟨hi, g⟩
  rw [h] at this; simp at this)
theorem dj_sub {S T a : Nat} (h : DJ S a) (hT : subS T S) : DJ T a := fun i hi => h i (hT i hi)
theorem sub_ltn {n S T : Nat} (hS : S < 2 ^ n) (hT : subS T S) : T < 2 ^ n := Nat.lt_of_le_of_lt (subS_le hT) hS
theorem ne0_bit {s : Nat} (hs : s < 1024) (h0 : s ≠ 0) : ∃ i, s.testBit i = true := ⟨low s, low_bit hs h0⟩
theorem bit_ne0 {s i : Nat} (h : s.testBit i = true) : s ≠ 0 := fun g => by rw [g] at h; simp at h
theorem hang_loc {n : Nat} {nb : Nat → Nat} {u X Y : Nat} (hu : u < 10) (hX : X < 1024) (hY : Y < 1024) (hYX : subS Y X) (hH : subS (hangN n nb u X) Y) : hangN n nb u Y = hangN n nb u X := by
  refine eq_of_bits (fun i => ⟨fun h => ?_, fun h => ?_⟩)
  · exact hang_min (C := fun i => (hangN n nb u X).testBit i = true) (hang_self _ _ _ _) (fun k i hk hc hi hs => hang_closed hu hX hk hc hi (hYX i hs)) i h
  · exact (hang_min (C := fun i => (hangN n nb u Y).testBit i = true ∧ (hangN n nb u X).testBit i = true) ⟨hang_self _ _ _ _, hang_self _ _ _ _⟩ (fun k i hk hc hi hs => by
      have h1 := hang_closed hu hX hk hc.2 hi hs
      exact ⟨hang_closed hu hY hk hc.1 hi (hH i h1), h1⟩) i h).1
/-- those of S that hang together with u, through S and those ahead -/
def cmpN (n : Nat) (nb : Nat → Nat) (a S u : Nat) : Nat := sd (hangN n nb u (S ||| a)) a
section GG
variable {n : Nat} {nb : Nat → Nat}
theorem or2_lt {S a : Nat} (hS : S < 2 ^ n) (ha : a < 2 ^ n) : S ||| a < 2 ^ n := Nat.or_lt_two_pow hS ha
theorem cm_t (G : GR n nb) {a S u i : Nat} (ha : a < 2 ^ n) (hS : S < 2 ^ n) (hu : S.testBit u = true) : (cmpN n nb a S u).testBit i = true ↔ (hangN n nb u (S ||| a)).testBit i = true ∧ a.testBit i = false := by
  have hp := pow10 G.1
  have h1 : hangN n nb u (S ||| a) < 1024 := Nat.lt_of_le_of_lt (subS_le (hang_sub2 (or_t.mpr (Or.inl hu)))) (Nat.lt_of_lt_of_le (or2_lt hS ha) hp)
  exact sd_t h1
theorem cm_sub (G : GR n nb) {a S u : Nat} (ha : a < 2 ^ n) (hS : S < 2 ^ n) (hu : S.testBit u = true) : subS (cmpN n nb a S u) S := fun i hi => by
  obtain ⟨h1, h2⟩ := (cm_t G ha hS hu).mp hi
  rcases or_t.mp (hang_sub2 (or_t.mpr (Or.inl hu)) i h1) with g | g
  · exact g
  · rw [g] at h2; cases h2
theorem cm_self (G : GR n nb) {a S u : Nat} (ha : a < 2 ^ n) (hS : S < 2 ^ n) (hd : DJ S a) (hu : S.testBit u = true) : (cmpN n nb a S u).testBit u = true := (cm_t G ha hS hu).mpr ⟨hang_self _ _ _ _, hd u hu⟩
theorem cmp_eq (G : GR n nb) {a S u x : Nat} (ha : a < 2 ^ n) (hS : S < 2 ^ n) (hu : S.testBit u = true) (hx : (cmpN n nb a S u).testBit x = true) : cmpN n nb a S x = cmpN n nb a S u := by
  unfold cmpN
  rw [hang_eq G (or2_lt hS ha) (or_t.mpr (Or.inl hu)) ((cm_t G ha hS hu).mp hx).1]
theorem cm_loc (G : GR n nb) {a S S' u : Nat} (ha : a < 2 ^ n) (hS : S < 2 ^ n) (hSS : subS S' S) (hu : S'.testBit u = true) (h : subS (cmpN n nb a S u) S') : cmpN n nb a S' u = cmpN n nb a S u := by
  have hp := pow10 G.1
  have hn := G.1
  have hu2 := hSS u hu
  have hun := bit_ltn hS hu2
  have h1 := or2_lt hS ha
  have h2 := or2_lt (sub_ltn hS hSS) ha
  unfold cmpN
  rw [hang_loc (X := S ||| a) (Y := S' ||| a) (by omega) (by omega) (by omega) (fun i hi => by
    rcases or_t.mp hi with g | g
    · exact or_t.mpr (Or.inl (hSS i g))
    · exact or_t.mpr (Or.inr g)) (fun i hi => by
    cases hai : a.testBit i with
    | true => exact or_t.mpr (Or.inr hai)
    | false => exact or_t.mpr (Or.inl (h i ((cm_t G ha hS hu2).mpr ⟨hi, hai⟩))))]
theorem cm_single (G : GR n nb) {a S u x : Nat} (ha : a < 2 ^ n) (hS : S < 2 ^ n) (hu : S.testBit u = true) (hx : (cmpN n nb a S u).testBit x = true) : cmpN n nb a (cmpN n nb a S u) x = cmpN n nb a S u := by
  have h1 := cmp_eq G ha hS hu hx
  rw [cm_loc G ha hS (cm_sub G ha hS hu) hx (by rw [h1]; exact fun _ h => h), h1]
theorem cm_disj (G : GR n nb) {a S u x : Nat} (ha : a < 2 ^ n) (hS : S < 2 ^ n) (hd : DJ S a) (hu : S.testBit u = true) (hx : S.testBit x = true) (hxu : (cmpN n nb a S u).testBit x = false) : ∀ i, (cmpN n nb a S x).testBit i = true → (cmpN n nb a S u).testBit i = false := fun i hi => Bool.eq_false_iff.mpr (fun g => by
  have h1 := cmp_eq G ha hS hx hi
  have h2 := cmp_eq G ha hS hu g
  have h3 := cm_self G ha hS hd hx
  rw [← h1, h2, hxu] at h3
  cases h3)
/-- what hangs together by what is seen past those ahead -/
theorem cm_past (G : GR n nb) {a S u : Nat} (ha : a < 2 ^ n) (hS : S < 2 ^ n) (hd : DJ S a) (hu : S.testBit u = true) : hangN n (pastN nb a) u S = cmpN n nb a S u := by
  have hn := G.1
  have hp := pow10 hn
  have hun := bit_ltn hS hu
  have hSa := or2_lt hS ha
  have hpast : ∀ x y, S.testBit x = true → ((pastN nb a x).testBit y = true ↔ (∃ k, k < n ∧ (hangN n nb x (a ||| 2 ^ x)).testBit k = true ∧ (nb k).testBit y = true) ∧ (hangN n nb x (a ||| 2 ^ x)).testBit y = false) := fun x y hx => by
    have hxn := bit_ltn hS hx
    rw [← sees_past G ha hxn (hd x hx)]
    unfold seesN
    have hrl : reachN n nb (hangN n nb x (a ||| 2 ^ x)) < 1024 := Nat.lt_of_lt_of_le (forN_inv (I := fun _ (m : Nat) => m < 2 ^ n) Nat.one_le_two_pow (fun k m hk hm => by
      split
      · exact Nat.or_lt_two_pow hm (G.2.1 k (by omega))
      · exact hm) n (Nat.le_refl _)) hp
    rw [sd_t hrl, reach_t]
  have hxa : ∀ x, S.testBit x = true → a ||| 2 ^ x < 2 ^ n := fun x hx => or_ltn ha (bit_ltn hS hx)
  have hxin : ∀ x i, S.testBit x = true → (hangN n nb x (a ||| 2 ^ x)).testBit i = true → a.testBit i = true ∨ i = x := fun x i hx hi => by
    rcases or_t.mp (hang_sub2 (or_t.mpr (Or.inr (pow_t.mpr rfl))) i hi) with g | g
    · exact Or.inl g
    · exact Or.inr (pow_t.mp g)
  refine eq_of_bits (fun i => ⟨fun h => ?_, fun h => ?_⟩)
  · refine (hang_min (C := fun i => S.testBit i = true ∧ (cmpN n nb a S u).testBit i = true) ⟨hu, cm_self G ha hS hd hu⟩ (fun k i hk hc hi hs => ⟨hs, ?_⟩) i h).2
    obtain ⟨⟨j, j1, j2, j3⟩, _⟩ := (hpast k i hc.1).mp hi
    have hk1 := ((cm_t G ha hS hu).mp hc.2).1
    have hj : (hangN n nb u (S ||| a)).testBit j = true := hang_min (C := fun j => (hangN n nb u (S ||| a)).testBit j = true) hk1 (fun k' i' hk' hc' hi' hs' => hang_closed (by omega) (by omega) hk' hc' hi' (by
      rcases or_t.mp hs' with g | g
      · exact or_t.mpr (Or.inr g)
      · rw [pow_t.mp g]; exact or_t.mpr (Or.inl hc.1))) j j2
    exact (cm_t G ha hS hu).mpr ⟨hang_closed (by omega) (by omega) j1 hj j3 (or_t.mpr (Or.inl hs)), hd i hs⟩
  · obtain ⟨h1, h2⟩ := (cm_t G ha hS hu).mp h
    have key := hang_min (n := n) (nb := nb) (v := u) (s := S ||| a) (C := fun i => (S.testBit i = true ∧ (hangN n (pastN nb a) u S).testBit i = true) ∨ (a.testBit i = true ∧ ∃ x, S.testBit x = true ∧ (hangN n (pastN nb a) u S).testBit x = true ∧ (hangN n nb x (a ||| 2 ^ x)).testBit i = true)) (Or.inl ⟨hu, hang_self _ _ _ _⟩) (fun k i hk hc hi hs => by
      -- x of S among those hanging, k hangs on x through those ahead
      have main : ∀ x, S.testBit x = true → (hangN n (pastN nb a) u S).testBit x = true → (hangN n nb x (a ||| 2 ^ x)).testBit k = true → (S.testBit i = true ∧ (hangN n (pastN nb a) u S).testBit i = true) ∨ (a.testBit i = true ∧ ∃ x, S.testBit x = true ∧ (hangN n (pastN nb a) u S).testBit x = true ∧ (hangN n nb x (a ||| 2 ^ x)).testBit i = true) := fun x hx hxu hxk => by
        have hxn := bit_ltn hS hx
        have hxl := hxa x hx
        rcases or_t.mp hs with g | g
        · refine Or.inl ⟨g, ?_⟩
          by_cases e : i = x
          · rw [e]; exact hxu
          · refine hang_closed (by omega) (by omega) hxn hxu ((hpast x i hx).mpr ⟨⟨k, hk, hxk, hi⟩, Bool.eq_false_iff.mpr (fun q => ?_)⟩) g
            rcases hxin x i hx q with q | q
            · rw [hd i g] at q; cases q
            · exact e q
        · exact Or.inr ⟨g, x, hx, hxu, hang_closed (by omega) (by omega) hk hxk hi (or_t.mpr (Or.inl g))⟩
      rcases hc with ⟨c1, c2⟩ | ⟨c1, x, c2, c3, c4⟩
      · exact main k c1 c2 (hang_self _ _ _ _)
      · exact main x c2 c3 c4) i h1
    rcases key with ⟨_, k2⟩ | ⟨k1, _⟩
    · exact k2
    · rw [k1] at h2; cases h2
theorem pc_cm (G : GR n nb) {a S : Nat} (ha : a < 2 ^ n) (hS : S < 2 ^ n) (hd : DJ S a) (h0 : S ≠ 0) : pcN (pastN nb a) S = cmpN n nb a S (low S) := by
  have hp := pow10 G.1
  rw [pc_hang G.1 hS h0, cm_past G ha hS hd (low_bit (by omega) h0)]
end GG
/-! least and greatest -/
theorem min_spec {p : Nat → Bool} {f : Nat → Nat} {c : Nat} : ∀ N, forN (fun v m => if p v = true then (if f v < m then f v else m) else m) N c ≤ c ∧ (∀ v, v < N → p v = true → forN (fun v m => if p v = true then (if f v < m then f v else m) else m) N c ≤ f v) ∧ (forN (fun v m => if p v = true then (if f v < m then f v else m) else m) N c = c ∨ ∃ v, v < N ∧ p v = true ∧ forN (fun v m => if p v = true then (if f v < m then f v else m) else m) N c = f v) := by
  intro N
  induction N with
  | zero => exact ⟨Nat.le_refl _, fun v hv => absurd hv (Nat.not_lt_zero _), Or.inl rfl⟩
  | succ N ih =>
    obtain ⟨i1, i2, i3⟩ := ih
    generalize hq : forN (fun v m => if p v = true then (if f v < m then f v else m) else m) N c = q at i1 i2 i3
    have e : forN (fun v m => if p v = true then (if f v < m then f v else m) else m) (N + 1) c = if p N = true then (if f N < q then f N else q) else q := by rw [← hq]; rfl
    rw [e]
    by_cases hp : p N = true
    · rw [if_pos hp]
      by_cases hl : f N < q
      · rw [if_pos hl]
        refine ⟨by omega, fun v hv hpv => ?_, Or.inr ⟨N, by omega, hp, rfl⟩⟩
        by_cases ev : v = N
        · rw [ev]; exact Nat.le_refl _
        · have := i2 v (by omega) hpv; omega
      · rw [if_neg hl]
        refine ⟨i1, fun v hv hpv => ?_, ?_⟩
        · by_cases ev : v = N
          · rw [ev]; omega
          · exact i2 v (by omega) hpv
        · rcases i3 with g | ⟨v, h1, h2⟩
          · exact Or.inl g
          · exact Or.inr ⟨v, by omega, h2⟩
    · rw [if_neg hp]
      refine ⟨i1, fun v hv hpv => ?_, ?_⟩
      · by_cases ev : v = N
        · rw [ev] at hpv; exact absurd hpv hp
        · exact i2 v (by omega) hpv
      · rcases i3 with g | ⟨v, h1, h2⟩
        · exact Or.inl g
        · exact Or.inr ⟨v, by omega, h2⟩
theorem tall_ge {n : Nat} {h : Nat → Nat} {s v : Nat} (hv : v < n) (hs : s.testBit v = true) : h v ≤ tallN n h s := by
  unfold tallN
  suffices g : ∀ N, v < N → h v ≤ forN (fun v m => if s.testBit v then (if m < h v then h v else m) else m) N 0 from g n hv
  intro N
  induction N with
  | zero => intro h; omega
  | succ N ih =>
    intro hN
    show h v ≤ (fun v m => if s.testBit v then (if m < h v then h v else m) else m) N (forN (fun v m => if s.testBit v then (if m < h v then h v else m) else m) N 0)
    by_cases e : v = N
    · subst e
      dsimp only
      rw [if_pos hs]
      split <;> omega
    · have i1 := ih (by omega)
      dsimp only
      split
      · split <;> omega
      · exact i1
/-- the least at the top of a set, in the two ways of writing -/
theorem lb_tp {n : Nat} {f g : Nat → Nat} {w v0 : Nat} (hv0 : v0 < n) (hw0 : w.testBit v0 = true) (hf : f v0 ≤ 900) (hfg : ∀ v, v < n → w.testBit v = true → g v = f v + 1) : 1 + forN (fun v m => if w.testBit v = true then (if f v < m then f v else m) else m) n 1000 = forN (fun v m => if w.testBit v = true then (if g v < m then g v else m) else m) n 1000 := by
  obtain ⟨a1, a2, a3⟩ := min_spec (p := fun v => w.testBit v) (f := f) (c := 1000) n
  obtain ⟨b1, b2, b3⟩ := min_spec (p := fun v => w.testBit v) (f := g) (c := 1000) n
  generalize forN (fun v m => if w.testBit v = true then (if f v < m then f v else m) else m) n 1000 = x at *
  generalize forN (fun v m => if w.testBit v = true then (if g v < m then g v else m) else m) n 1000 = y at *
  have c1 := a2 v0 hv0 hw0
  have c2 := b2 v0 hv0 hw0
  have c3 := hfg v0 hv0 hw0
  rcases a3 with a3 | ⟨v, v1, v2, v3⟩
  · omega
  · rcases b3 with b3 | ⟨u, u1, u2, u3⟩
    · omega
    · have d1 := b2 v v1 v2
      have d2 := a2 u u1 u2
      have d3 := hfg v v1 v2
      have d4 := hfg u u1 u2
      omega
theorem max_tall {n : Nat} {hi : Nat → Nat} {X c : Nat} {P : Nat → Prop} (inst : ∀ k, Decidable (P k)) (hP : ∀ k, k < n → (P k ↔ X.testBit k = true)) : ∀ N, N ≤ n → forN (fun k h => if P k ∧ h < hi k then hi k else h) N c = if c < forN (fun v m => if X.testBit v then (if m < hi v then hi v else m) else m) N 0 then forN (fun v m => if X.testBit v then (if m < hi v then hi v else m) else m) N 0 else c := by
  intro N
  induction N with
  | zero => intro _; rfl
  | succ N ih =>
    intro hN
    have i1 := ih (by omega)
    generalize hx : forN (fun k h => if P k ∧ h < hi k then hi k else h) N c = x at i1
    generalize hy : forN (fun v m => if X.testBit v then (if m < hi v then hi v else m) else m) N 0 = y at i1
    have e1 : forN (fun k h => if P k ∧ h < hi k then hi k else h) (N + 1) c = if P N ∧ x < hi N then hi N else x := by rw [← hx]; rfl
    have e2 : forN (fun v m => if X.testBit v then (if m < hi v then hi v else m) else m) (N + 1) 0 = if X.testBit N then (if y < hi N then hi N else y) else y := by rw [← hy]; rfl
    rw [e1, e2]
    by_cases hb : X.testBit N = true
    · rw [if_pos hb]
      have hPN := (hP N (by omega)).mpr hb
      by_cases g1 : x < hi N
      · rw [if_pos ⟨hPN, g1⟩]
        split at i1 <;> (repeat' split) <;> omega
      · rw [if_neg (fun q => g1 q.2)]
        split at i1 <;> (repeat' split) <;> omega
    · rw [if_neg hb, if_neg (fun q => hb ((hP N (by omega)).mp q.1))]
      exact i1
