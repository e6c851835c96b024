/-! ways through a set, from u to v -/
def hpF (nb : Nat → Nat) : Nat → Nat → Nat → Nat → Int64
  | 0, _, _, _ => 0
  | f + 1, s, u, v => if s.testBit v = true then (if sd s (2 ^ v) = 0 then (if u = v then 1 else 0) else Sg (fun w => if (nb v).testBit w = true then hpF nb f (sd s (2 ^ v)) u w else 0) 10) else 0
theorem hpF_fuel {nb : Nat → Nat} : ∀ (f g s u v : Nat), s < 1024 → s ≤ f → s ≤ g → hpF nb f s u v = hpF nb g s u v
  | 0, 0, s, u, v, h, h1, h2 => rfl
  | 0, g + 1, s, u, v, h, h1, h2 => by
    have : s = 0 := by omega
    subst this; simp [hpF]
  | f + 1, 0, s, u, v, h, h1, h2 => by
    have : s = 0 := by omega
    subst this; simp [hpF]
  | f + 1, g + 1, s, u, v, h, h1, h2 => by
    simp only [hpF]
    cases hb : s.testBit v with
    | false => rw [if_neg (by decide), if_neg (by decide)]
    | true =>
      rw [if_pos rfl, if_pos rfl]
      have hlt := sd_one_lt h hb
      by_cases e : sd s (2 ^ v) = 0
      · rw [if_pos e, if_pos e]
      · rw [if_neg e, if_neg e]
        refine Sg_congr 10 (fun w _ => ?_)
        try dsimp only
        split
        · exact hpF_fuel f g _ u w (by omega) (by omega) (by omega)
        · rfl
def hpN (nb : Nat → Nat) (s u v : Nat) : Int64 := hpF nb 1024 s u v
theorem hp_out {nb : Nat → Nat} {s u v : Nat} (h : s.testBit v = false) : hpN nb s u v = 0 := by
  show (if s.testBit v = true then _ else (0 : Int64)) = 0
  rw [if_neg (by rw [h]; decide)]
theorem hp_one {nb : Nat → Nat} {s u v : Nat} (hv : s.testBit v = true) (h : sd s (2 ^ v) = 0) : hpN nb s u v = if u = v then 1 else 0 := by
  show (if s.testBit v = true then (if sd s (2 ^ v) = 0 then (if u = v then (1 : Int64) else 0) else _) else _) = _
  rw [if_pos hv, if_pos h]
theorem hp_step {nb : Nat → Nat} {s u v : Nat} (hs : s < 1024) (hv : s.testBit v = true) (h : ¬ sd s (2 ^ v) = 0) : hpN nb s u v = Sg (fun w => if (nb v).testBit w = true then hpN nb (sd s (2 ^ v)) u w else 0) 10 := by
  have hlt := sd_one_lt hs hv
  show (if s.testBit v = true then (if sd s (2 ^ v) = 0 then (if u = v then (1 : Int64) else 0) else Sg (fun w => if (nb v).testBit w = true then hpF nb 1023 (sd s (2 ^ v)) u w else 0) 10) else 0) = _
  rw [if_pos hv, if_neg h]
  refine Sg_congr 10 (fun w _ => ?_)
  try dsimp only
  split
  · exact hpF_fuel _ _ _ _ _ (by omega) (by omega) (by omega)
  · rfl
theorem sd_comm {s a b : Nat} (hs : s < 1024) : sd (sd s a) b = sd (sd s b) a := by
  refine eq_of_bits (fun i => ?_)
  rw [sd_t (sd_lt hs), sd_t hs, sd_t (sd_lt hs), sd_t hs]
  exact ⟨fun h => ⟨⟨h.1.1, h.2⟩, h.1.2⟩, fun h => ⟨⟨h.1.1, h.2⟩, h.1.2⟩⟩
theorem Su_swap {α : Type} [Lean.Grind.CommRing α] {s : Nat} (hs : s < 1024) {F : Nat → Nat → α} : Su s (fun t => Su (sd s t) (fun u => F t u)) = Su s (fun u => Su (sd s u) (fun t => F t u)) := by
  have hc : ∀ t u, (t &&& s = t ∧ u &&& sd s t = u) ↔ (u &&& s = u ∧ t &&& sd s u = t) := by
    have key : ∀ t u, (t &&& s = t ∧ u &&& sd s t = u) → (u &&& s = u ∧ t &&& sd s u = t) := by
      rintro t u ⟨h1, h2⟩
      rw [sub_t] at h1 h2 ⊢
      rw [sub_t]
      refine ⟨fun i hi => ((sd_t hs).mp (h2 i hi)).1, fun i hi => (sd_t hs).mpr ⟨h1 i hi, Bool.eq_false_iff.mpr (fun g => ?_)⟩⟩
      have := ((sd_t hs).mp (h2 i g)).2
      rw [hi] at this; cases this
    exact fun t u => ⟨key t u, key u t⟩
  have e : ∀ (F : Nat → Nat → α), Su s (fun t => Su (sd s t) (fun u => F t u)) = Sg (fun t => Sg (fun u => if t &&& s = t ∧ u &&& sd s t = u then F t u else 0) 1024) 1024 := by
    intro F
    refine Sg_congr 1024 (fun t _ => ?_)
    try dsimp only
    by_cases h : t &&& s = t
    · rw [if_pos h]
      refine Sg_congr 1024 (fun u _ => ?_)
      try dsimp only
      by_cases h2 : u &&& sd s t = u
      · rw [if_pos h2, if_pos ⟨h, h2⟩]
      · rw [if_neg h2, if_neg (fun g => h2 g.2)]
    · rw [if_neg h, Sg_congr 1024 (g := fun _ => 0) (fun u _ => if_neg (fun g => h g.1)), Sg_0]
  rw [e, e (fun u t => F t u), Sg_swap]
  refine Sg_congr 1024 (fun u _ => Sg_congr 1024 (fun t _ => ?_))
  try dsimp only
  by_cases h : t &&& s = t ∧ u &&& sd s t = u
  · rw [if_pos h, if_pos ((hc t u).mp h)]
  · rw [if_neg h, if_neg (fun g => h ((hc t u).mpr g))]
theorem Su_Sg {α : Type} [Lean.Grind.CommRing α] {s m : Nat} {F : Nat → Nat → α} : Su s (fun t => Sg (fun w => F t w) m) = Sg (fun w => Su s (fun t => F t w)) m := by
  unfold Su
  rw [← Sg_swap]
  refine Sg_congr 1024 (fun t _ => ?_)
  try dsimp only
  split
  · rfl
  · rw [Sg_0]
theorem rg3 (a b : Int64) : a * b + 0 = a * b := by grind
theorem rg4 (a : Int64) : a * 0 = 0 := by grind
theorem rg5 (a : Int64) : 0 * a = 0 := by grind
theorem rg6 (a : Int64) : a * 1 = a := by grind
/-- no way begins outside its set -/
theorem hp_begin {nb : Nat → Nat} {u : Nat} : ∀ {s v : Nat}, s < 1024 → s.testBit u = false → hpN nb s u v = 0 := by
  intro s
  refine wh_ind (P := fun s => ∀ {v : Nat}, s < 1024 → s.testBit u = false → hpN nb s u v = 0) (fun s => s) (fun s ih v hs hu => ?_) s
  cases hv : s.testBit v with
  | false => exact hp_out hv
  | true =>
    by_cases e : sd s (2 ^ v) = 0
    · rw [hp_one hv e, if_neg (fun g => by rw [g, hv] at hu; cases hu)]
    · rw [hp_step hs hv e, Sg_congr 10 (g := fun _ => 0) (fun w _ => ?_), Sg_0]
      have hlt := sd_one_lt hs hv
      split
      · exact ih _ hlt (by omega) (Bool.eq_false_iff.mpr (fun g => by rw [((sd_t hs).mp g).1] at hu; cases hu))
      · rfl
/-- a way through V is cut at any vertex x of it -/
theorem hp_cut {nb : Nat → Nat} {x u : Nat} (hx : x < 10) : ∀ V, V < 1024 → V.testBit x = true → ∀ v, hpN nb V u v = Su (sd V (2 ^ x)) (fun A => hpN nb (A ||| 2 ^ x) u x * hpN nb (sd V A) x v) := by
  intro V
  refine wh_ind (P := fun V => V < 1024 → V.testBit x = true → ∀ v, hpN nb V u v = Su (sd V (2 ^ x)) (fun A => hpN nb (A ||| 2 ^ x) u x * hpN nb (sd V A) x v)) (fun V => V) (fun V ih hV hVx v => ?_) V
  have hpx : 2 ^ x < 1024 := pow_lt hx
  have hWl : sd V (2 ^ x) < 1024 := sd_lt hV
  have hor : sd V (2 ^ x) ||| 2 ^ x = V := by
    refine eq_of_bits (fun i => ?_)
    rw [or_t, sd_t hV, pow_t]
    constructor
    · rintro (h | h)
      · exact h.1
      · rw [h]; exact hVx
    · intro h
      by_cases e : i = x
      · exact Or.inr e
      · exact Or.inl ⟨h, Bool.eq_false_iff.mpr (fun g => e (pow_t.mp g))⟩
  -- what is left beside A has x
  have hxin : ∀ A, A &&& sd V (2 ^ x) = A → (sd V A).testBit x = true := fun A hA => by
    refine (sd_t hV).mpr ⟨hVx, Bool.eq_false_iff.mpr (fun g => ?_)⟩
    have := ((sd_t hV).mp (sub_t.mp hA x g)).2
    rw [pow_t.mpr rfl] at this; cases this
  by_cases hvx : v = x
  · subst hvx
    unfold Su
    rw [Sg_one (l := sd V (2 ^ v)) 1024 hWl (fun A hA hne => ?_)]
    · rw [if_pos (Nat.and_self _)]
      try dsimp only
      rw [hor, hp_one (hxin _ (Nat.and_self _)), if_pos rfl, rg6]
      refine eq_of_bits (fun i => ?_)
      rw [sd_t (sd_lt hV), sd_t hV, Nat.zero_testBit]
      constructor
      · rintro ⟨⟨a, b⟩, c⟩
        rw [(sd_t hV).mpr ⟨a, c⟩] at b; cases b
      · intro h; cases h
    · by_cases hA2 : A &&& sd V (2 ^ v) = A
      · rw [if_pos hA2]
        try dsimp only
        have hAV : subS A (sd V (2 ^ v)) := sub_t.mp hA2
        have hne2 : ¬ sd (sd V A) (2 ^ v) = 0 := fun g => hne (eq_of_bits (fun i => ⟨hAV i, fun hi => by
          refine Classical.byContradiction (fun hno => ?_)
          obtain ⟨h1, h2⟩ := (sd_t hV).mp hi
          have : (sd (sd V A) (2 ^ v)).testBit i = true := (sd_t (sd_lt hV)).mpr ⟨(sd_t hV).mpr ⟨h1, Bool.eq_false_iff.mpr hno⟩, h2⟩
          rw [g] at this; simp at this⟩))
        rw [hp_step (sd_lt hV) (hxin A hA2) hne2, Sg_congr 10 (g := fun _ => 0) (fun w _ => ?_), Sg_0, rg4]
        split
        · -- no way begins at v outside the set
          exact hp_begin (sd_lt (sd_lt hV)) (by rw [sd_bit _ _ _ (sd_lt hV), pow_t.mpr rfl]; simp)
        · rfl
      · rw [if_neg hA2]
  · cases hVv : V.testBit v with
    | false =>
      rw [hp_out hVv, Su_congr (g := fun _ => 0) (fun A hA e => ?_), Su_0]
      rw [hp_out (s := sd V A) (Bool.eq_false_iff.mpr (fun g => by rw [((sd_t hV).mp g).1] at hVv; cases hVv)), rg4]
    | true =>
      have hlt := sd_one_lt hV hVv
      have hxv : (sd V (2 ^ v)).testBit x = true := (sd_t hV).mpr ⟨hVx, Bool.eq_false_iff.mpr (fun g => hvx (pow_t.mp g).symm)⟩
      have hne : ¬ sd V (2 ^ v) = 0 := fun g => by rw [g] at hxv; simp at hxv
      rw [hp_step hV hVv hne]
      have e1 : Sg (fun w => if (nb v).testBit w = true then hpN nb (sd V (2 ^ v)) u w else 0) 10 = Sg (fun w => Su (sd (sd V (2 ^ v)) (2 ^ x)) (fun A => hpN nb (A ||| 2 ^ x) u x * (if (nb v).testBit w = true then hpN nb (sd (sd V (2 ^ v)) A) x w else 0))) 10 := by
        refine Sg_congr 10 (fun w _ => ?_)
        try dsimp only
        split
        · exact ih _ hlt (by omega) hxv w
        · rw [Su_congr (g := fun _ => 0) (fun A _ _ => rg4 _), Su_0]
      rw [e1, ← Su_Sg]
      unfold Su
      refine Sg_congr 1024 (fun A hA => ?_)
      try dsimp only
      by_cases hA2 : A &&& sd V (2 ^ x) = A
      · rw [if_pos hA2]
        have hAV := sub_t.mp hA2
        cases hAv : A.testBit v with
        | true =>
          have hno : ¬ A &&& sd (sd V (2 ^ v)) (2 ^ x) = A := fun g => by
            have h1 := (sd_t hV).mp ((sd_t (sd_lt hV)).mp (sub_t.mp g v hAv)).1
            rw [pow_t.mpr rfl] at h1; exact absurd h1.2 (by decide)
          rw [if_neg hno, hp_out (s := sd V A) (Bool.eq_false_iff.mpr (fun g => by have := ((sd_t hV).mp g).2; rw [hAv] at this; cases this)), rg4]
        | false =>
          have hyes : A &&& sd (sd V (2 ^ v)) (2 ^ x) = A := sub_t.mpr (fun i hi => by
            obtain ⟨h1, h2⟩ := (sd_t hV).mp (hAV i hi)
            exact (sd_t (sd_lt hV)).mpr ⟨(sd_t hV).mpr ⟨h1, Bool.eq_false_iff.mpr (fun g => by rw [pow_t.mp g, hAv] at hi; cases hi)⟩, h2⟩)
          rw [if_pos hyes, Sg_mul]
          have hvA : (sd V A).testBit v = true := (sd_t hV).mpr ⟨hVv, hAv⟩
          have hxA : (sd (sd V A) (2 ^ v)).testBit x = true := (sd_t (sd_lt hV)).mpr ⟨hxin A hA2, Bool.eq_false_iff.mpr (fun g => hvx (pow_t.mp g).symm)⟩
          have hneA : ¬ sd (sd V A) (2 ^ v) = 0 := fun g => by rw [g] at hxA; simp at hxA
          rw [hp_step (sd_lt hV) hvA hneA, sd_comm hV]
      · rw [if_neg hA2, if_neg (fun g => hA2 (sub_t.mpr (fun i hi => by
          obtain ⟨h1, h2⟩ := (sd_t (sd_lt hV)).mp (sub_t.mp g i hi)
          exact (sd_t hV).mpr ⟨((sd_t hV).mp h1).1, h2⟩)))]
