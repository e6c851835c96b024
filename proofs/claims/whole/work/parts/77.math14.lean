/-! ways backwards; rings from any vertex -/
section GG
variable {n : Nat} {nb : Nat → Nat}
theorem adj10 (G : GR n nb) {u v : Nat} (hu : u < 10) (h : (nb u).testBit v = true) : (nb v).testBit u = true := by
  rcases Nat.lt_or_ge u n with g | g
  · exact gr_sym G g h
  · rw [G.2.2.1 u g hu] at h; simp at h
theorem if_Sg {p : Prop} [Decidable p] {f : Nat → Int64} {m : Nat} : (if p then Sg f m else 0) = Sg (fun k => if p then f k else 0) m := by
  by_cases h : p
  · rw [if_pos h]; exact Sg_congr m (fun k _ => (if_pos h).symm)
  · rw [if_neg h, Sg_congr m (g := fun _ => 0) (fun k _ => if_neg h), Sg_0]
theorem if_if {p q : Prop} [Decidable p] [Decidable q] {x : Int64} : (if p then (if q then x else 0) else 0) = (if q then (if p then x else 0) else 0) := by
  by_cases h1 : p <;> by_cases h2 : q <;> simp [h1, h2]
theorem hp_start (G : GR n nb) : ∀ s, s < 1024 → ∀ u v, u < 10 → v < 10 → s.testBit u = true → ¬ sd s (2 ^ u) = 0 → hpN nb s u v = Sg (fun w => if (nb u).testBit w = true then hpN nb (sd s (2 ^ u)) w v else 0) 10 := by
  intro s
  refine wh_ind (P := fun s => s < 1024 → ∀ u v, u < 10 → v < 10 → s.testBit u = true → ¬ sd s (2 ^ u) = 0 → hpN nb s u v = Sg (fun w => if (nb u).testBit w = true then hpN nb (sd s (2 ^ u)) w v else 0) 10) (fun s => s) (fun s ih hs u v hu hv hsu hne => ?_) s
  cases hsv : s.testBit v with
  | false =>
    rw [hp_out hsv, Sg_congr 10 (g := fun _ => 0) (fun w _ => ?_), Sg_0]
    split
    · exact hp_out (Bool.eq_false_iff.mpr (fun g => by rw [((sd_t hs).mp g).1] at hsv; cases hsv))
    · rfl
  | true =>
    by_cases huv : u = v
    · subst huv
      rw [hp_step hs hsu hne, Sg_congr 10 (g := fun _ => 0) (fun w _ => ?_), Sg_0, Sg_congr 10 (g := fun _ => 0) (fun w _ => ?_), Sg_0]
      · split
        · exact hp_out (by rw [sd_bit _ _ _ hs, pow_t.mpr rfl]; simp)
        · rfl
      · split
        · exact hp_begin (sd_lt hs) (by rw [sd_bit _ _ _ hs, pow_t.mpr rfl]; simp)
        · rfl
    · have hlt := sd_one_lt hs hsv
      have huv2 : (sd s (2 ^ v)).testBit u = true := (sd_t hs).mpr ⟨hsu, Bool.eq_false_iff.mpr (fun g => huv (pow_t.mp g))⟩
      have hvu2 : (sd s (2 ^ u)).testBit v = true := (sd_t hs).mpr ⟨hsv, Bool.eq_false_iff.mpr (fun g => huv (pow_t.mp g).symm)⟩
      have hnev : ¬ sd s (2 ^ v) = 0 := fun g => by rw [g] at huv2; simp at huv2
      rw [hp_step hs hsv hnev]
      by_cases h2 : sd (sd s (2 ^ v)) (2 ^ u) = 0
      · have h3 : sd (sd s (2 ^ u)) (2 ^ v) = 0 := by rw [sd_comm hs]; exact h2
        have e1 : Sg (fun w => if (nb v).testBit w = true then hpN nb (sd s (2 ^ v)) u w else 0) 10 = if (nb v).testBit u = true then 1 else 0 := by
          rw [Sg_one (l := u) 10 hu (fun w _ hw => ?_)]
          · rw [hp_one huv2 h2, if_pos rfl]
          · split
            · refine hp_out (Bool.eq_false_iff.mpr (fun g => ?_))
              have : (sd (sd s (2 ^ v)) (2 ^ u)).testBit w = true := (sd_t (sd_lt hs)).mpr ⟨g, Bool.eq_false_iff.mpr (fun g2 => hw (pow_t.mp g2))⟩
              rw [h2] at this; simp at this
            · rfl
        have e2 : Sg (fun w => if (nb u).testBit w = true then hpN nb (sd s (2 ^ u)) w v else 0) 10 = if (nb u).testBit v = true then 1 else 0 := by
          rw [Sg_one (l := v) 10 hv (fun w _ hw => ?_)]
          · rw [hp_one hvu2 h3, if_pos rfl]
          · split
            · rw [hp_one hvu2 h3, if_neg hw]
            · rfl
        rw [e1, e2]
        cases hb : (nb v).testBit u with
        | true => rw [if_pos rfl, if_pos (adj10 G hv hb)]
        | false => rw [if_neg (by decide), if_neg (fun g => by rw [adj10 G hu g] at hb; cases hb)]
      · have h3 : ¬ sd (sd s (2 ^ u)) (2 ^ v) = 0 := by rw [sd_comm hs]; exact h2
        have e1 : Sg (fun w => if (nb v).testBit w = true then hpN nb (sd s (2 ^ v)) u w else 0) 10 = Sg (fun w => Sg (fun x => if (nb v).testBit w = true then (if (nb u).testBit x = true then hpN nb (sd (sd s (2 ^ v)) (2 ^ u)) x w else 0) else 0) 10) 10 := by
          refine Sg_congr 10 (fun w hw => ?_)
          try dsimp only
          rw [← if_Sg]
          split
          · exact ih _ hlt (by omega) u w hu hw huv2 h2
          · rfl
        rw [e1, Sg_swap]
        refine Sg_congr 10 (fun x _ => ?_)
        try dsimp only
        rw [hp_step (sd_lt hs) hvu2 h3, if_Sg]
        refine Sg_congr 10 (fun w _ => ?_)
        try dsimp only
        rw [if_if, sd_comm hs]
theorem hp_sym (G : GR n nb) : ∀ s, s < 1024 → ∀ u v, u < 10 → v < 10 → hpN nb s u v = hpN nb s v u := by
  intro s
  refine wh_ind (P := fun s => s < 1024 → ∀ u v, u < 10 → v < 10 → hpN nb s u v = hpN nb s v u) (fun s => s) (fun s ih hs u v hu hv => ?_) s
  cases hsv : s.testBit v with
  | false => rw [hp_out hsv, hp_begin hs hsv]
  | true =>
    by_cases huv : u = v
    · rw [huv]
    · by_cases e : sd s (2 ^ v) = 0
      · rw [hp_one hsv e, if_neg huv]
        refine (hp_out (Bool.eq_false_iff.mpr (fun g => ?_))).symm
        have : (sd s (2 ^ v)).testBit u = true := (sd_t hs).mpr ⟨g, Bool.eq_false_iff.mpr (fun g2 => huv (pow_t.mp g2))⟩
        rw [e] at this; simp at this
      · have hlt := sd_one_lt hs hsv
        rw [hp_step hs hsv e, hp_start G s hs v u hv hu hsv e]
        refine Sg_congr 10 (fun w hw => ?_)
        try dsimp only
        split
        · exact ih _ hlt (by omega) u w hu hw
        · rfl
/-- ways from x through a set -/
def armN (nb : Nat → Nat) (x A : Nat) : Int64 := Sg (fun v => hpN nb (A ||| 2 ^ x) x v) 10
theorem sd_or {V A x : Nat} (hV : V < 1024) (hx : V.testBit x = true) (hA : A &&& sd V (2 ^ x) = A) : sd V A = sd (sd V (2 ^ x)) A ||| 2 ^ x := by
  refine eq_of_bits (fun i => ?_)
  rw [or_t, sd_t hV, sd_t (sd_lt hV), sd_t hV, pow_t]
  constructor
  · rintro ⟨h1, h2⟩
    by_cases e : i = x
    · exact Or.inr e
    · exact Or.inl ⟨⟨h1, Bool.eq_false_iff.mpr (fun g => e (pow_t.mp g))⟩, h2⟩
  · rintro (⟨⟨h1, _⟩, h2⟩ | h)
    · exact ⟨h1, h2⟩
    · rw [h]
      refine ⟨hx, Bool.eq_false_iff.mpr (fun g => ?_)⟩
      have := ((sd_t hV).mp (sub_t.mp hA x g)).2
      rw [pow_t.mpr rfl] at this; cases this
/-- all ways through V: two arms of x -/
theorem ways_arms (G : GR n nb) {V x : Nat} (hV : V < 1024) (hx : x < 10) (hVx : V.testBit x = true) : Sg (fun u => Sg (fun v => hpN nb V u v) 10) 10 = Su (sd V (2 ^ x)) (fun A => armN nb x A * armN nb x (sd (sd V (2 ^ x)) A)) := by
  have e1 : Sg (fun u => Sg (fun v => hpN nb V u v) 10) 10 = Sg (fun u => Su (sd V (2 ^ x)) (fun A => hpN nb (A ||| 2 ^ x) x u * armN nb x (sd (sd V (2 ^ x)) A))) 10 := by
    refine Sg_congr 10 (fun u hu => ?_)
    try dsimp only
    rw [Sg_congr 10 (fun v _ => hp_cut hx V hV hVx v), ← Su_Sg]
    refine Su_congr (fun A hA e => ?_)
    try dsimp only
    rw [Sg_mul, hp_sym G _ (or_lt hA (pow_lt hx)) u x hu hx, sd_or hV hVx e]
    rfl
  rw [e1, ← Su_Sg]
  refine Su_congr (fun A hA e => ?_)
  try dsimp only
  rw [show armN nb x A * armN nb x (sd (sd V (2 ^ x)) A) = armN nb x (sd (sd V (2 ^ x)) A) * armN nb x A from Int64.mul_comm _ _]
  rw [Sg_congr 10 (fun u _ => Int64.mul_comm _ _), Sg_mul]
  rfl
/-- rings from r, gone along one way -/
def ringN (nb : Nat → Nat) (V r : Nat) : Int64 := Sg (fun v => if (nb r).testBit v = true then hpN nb V r v else 0) 10
theorem or_sd {Y r : Nat} (hY : Y < 1024) (hr : r < 10) (h : Y.testBit r = false) : sd (Y ||| 2 ^ r) (2 ^ r) = Y := by
  refine eq_of_bits (fun i => ?_)
  rw [sd_t (or_lt hY (pow_lt hr)), or_t, pow_t]
  constructor
  · rintro ⟨h1 | h1, h2⟩
    · exact h1
    · rw [h1, pow_t.mpr rfl] at h2; cases h2
  · intro h1
    refine ⟨Or.inl h1, Bool.eq_false_iff.mpr (fun g => by rw [pow_t.mp g, h] at h1; cases h1)⟩
theorem ring_cut {V r x : Nat} (hV : V < 1024) (hr : r < 10) (hx : x < 10) (hrx : r ≠ x) (hVx : V.testBit x = true) : ringN nb V r = Su V (fun A => if A.testBit r = true ∧ A.testBit x = false then hpN nb (A ||| 2 ^ x) r x * hpN nb (sd V A ||| 2 ^ r) x r else 0) := by
  unfold ringN
  have e1 : Sg (fun v => if (nb r).testBit v = true then hpN nb V r v else 0) 10 = Sg (fun v => Su (sd V (2 ^ x)) (fun A => hpN nb (A ||| 2 ^ x) r x * (if (nb r).testBit v = true then hpN nb (sd V A) x v else 0))) 10 := by
    refine Sg_congr 10 (fun v _ => ?_)
    try dsimp only
    split
    · exact hp_cut hx V hV hVx v
    · rw [Su_congr (g := fun _ => 0) (fun A _ _ => rg4 _), Su_0]
  rw [e1, ← Su_Sg]
  unfold Su
  refine Sg_congr 1024 (fun A hA => ?_)
  try dsimp only
  have hsub : A &&& sd V (2 ^ x) = A ↔ A &&& V = A ∧ A.testBit x = false := by
    rw [sub_t, sub_t]
    constructor
    · intro h
      refine ⟨fun i hi => ((sd_t hV).mp (h i hi)).1, Bool.eq_false_iff.mpr (fun g => ?_)⟩
      have := ((sd_t hV).mp (h x g)).2
      rw [pow_t.mpr rfl] at this; cases this
    · rintro ⟨h1, h2⟩ i hi
      exact (sd_t hV).mpr ⟨h1 i hi, Bool.eq_false_iff.mpr (fun g => by rw [pow_t.mp g, h2] at hi; cases hi)⟩
  by_cases c : A &&& V = A
  · rw [if_pos c]
    cases hAx : A.testBit x with
    | true => rw [if_neg (fun g => by have := (hsub.mp g).2; rw [hAx] at this; cases this), if_neg (fun g => absurd g.2 (by decide))]
    | false =>
      rw [if_pos (hsub.mpr ⟨c, hAx⟩)]
      cases hAr : A.testBit r with
      | true =>
        rw [if_pos ⟨rfl, rfl⟩, Sg_mul]
        have hYr : (sd V A).testBit r = false := Bool.eq_false_iff.mpr (fun g => by have := ((sd_t hV).mp g).2; rw [hAr] at this; cases this)
        have hYx : (sd V A).testBit x = true := (sd_t hV).mpr ⟨hVx, hAx⟩
        have hes := or_sd (sd_lt (b := A) hV) hr hYr
        rw [hp_step (or_lt (sd_lt hV) (pow_lt hr)) (or_t.mpr (Or.inr (pow_t.mpr rfl))) (by rw [hes]; intro g; rw [g] at hYx; simp at hYx), hes]
      | false =>
        rw [if_neg (fun g => absurd g.1 (by decide)), Sg_congr 10 (g := fun _ => 0) (fun v _ => ?_), Sg_0]
        rw [hp_begin (or_lt hA (pow_lt hx)) (Bool.eq_false_iff.mpr (fun g => by
          rcases or_t.mp g with g | g
          · rw [hAr] at g; cases g
          · exact hrx (pow_t.mp g))), rg5]
  · rw [if_neg c, if_neg (fun g => c (hsub.mp g).1)]
theorem ring_any {V r x : Nat} (hV : V < 1024) (hr : r < 10) (hx : x < 10) (hVr : V.testBit r = true) (hVx : V.testBit x = true) : ringN nb V r = ringN nb V x := by
  by_cases hrx : r = x
  · rw [hrx]
  · rw [ring_cut hV hr hx hrx hVx, ring_cut hV hx hr (fun g => hrx g.symm) hVr, ← Su_compl hV]
    refine Su_congr (fun A hA e => ?_)
    try dsimp only
    have h1 : (sd V A).testBit r = !A.testBit r := by rw [sd_bit _ _ _ hV, hVr]; simp
    have h2 : (sd V A).testBit x = !A.testBit x := by rw [sd_bit _ _ _ hV, hVx]; simp
    rw [h1, h2, sd_sd hV e]
    cases A.testBit r <;> cases A.testBit x <;> simp
    exact Int64.mul_comm _ _
end GG
