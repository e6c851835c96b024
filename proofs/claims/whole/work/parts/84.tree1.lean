/-! trees, by weights in any commutative ring: from any root, by any limb -/
def wS {α : Type} [Lean.Grind.CommRing α] (w : Nat → Nat → α) (r B : Nat) : α := Sg (fun b => if B.testBit b = true then w r b else 0) 10
def tauF {α : Type} [Lean.Grind.CommRing α] (w : Nat → Nat → α) : Nat → Nat → α
  | 0, _ => 0
  | f + 1, S => if S = 0 then 0 else if S &&& (S - 1) = 0 then 1 else Su (S &&& (S - 1)) (fun B => if B.testBit (low (S &&& (S - 1))) = true then wS w (low S) B * (tauF w f B * tauF w f (sd S B)) else 0)
def tau {α : Type} [Lean.Grind.CommRing α] (w : Nat → Nat → α) (S : Nat) : α := tauF w 1024 S
theorem tauF_fuel {α : Type} [Lean.Grind.CommRing α] {w : Nat → Nat → α} : ∀ (f g S : Nat), S < 1024 → S ≤ f → S ≤ g → tauF w f S = tauF w g S
  | 0, 0, S, h, h1, h2 => rfl
  | 0, g + 1, S, h, h1, h2 => by
    have : S = 0 := by omega
    subst this; simp [tauF]
  | f + 1, 0, S, h, h1, h2 => by
    have : S = 0 := by omega
    subst this; simp [tauF]
  | f + 1, g + 1, S, h, h1, h2 => by
    simp only [tauF]
    by_cases e0 : S = 0
    · rw [if_pos e0, if_pos e0]
    · rw [if_neg e0, if_neg e0]
      by_cases e1 : S &&& (S - 1) = 0
      · rw [if_pos e1, if_pos e1]
      · rw [if_neg e1, if_neg e1]
        have hle : S &&& (S - 1) ≤ S - 1 := Nat.and_le_right
        refine Su_congr (fun B hB e => ?_)
        try dsimp only
        by_cases c : B.testBit (low (S &&& (S - 1))) = true
        · have hBle : B ≤ S &&& (S - 1) := by rw [← e]; exact Nat.and_le_right
          have hlt : sd S B < S := sd_lss h (subS_low _ (sub_t.mp e _ c)) c
          rw [if_pos c, if_pos c, tauF_fuel f g B hB (by omega) (by omega), tauF_fuel f g (sd S B) (by omega) (by omega) (by omega)]
        · rw [if_neg c, if_neg c]
/-- the sum over the limbs of r that have t -/
def TRn {α : Type} [Lean.Grind.CommRing α] (w : Nat → Nat → α) (S r t : Nat) : α := Su S (fun B => if B.testBit t = true ∧ B.testBit r = false then wS w r B * (tau w B * tau w (sd S B)) else 0)
theorem tau_0 {α : Type} [Lean.Grind.CommRing α] {w : Nat → Nat → α} : tau w 0 = 0 := rfl
theorem tau_one {α : Type} [Lean.Grind.CommRing α] {w : Nat → Nat → α} {S : Nat} (h0 : ¬ S = 0) (h1 : S &&& (S - 1) = 0) : tau w S = 1 := by
  show (if S = 0 then (0 : α) else if S &&& (S - 1) = 0 then 1 else _) = 1
  rw [if_neg h0, if_pos h1]
theorem tau_low {α : Type} [Lean.Grind.CommRing α] {w : Nat → Nat → α} {S : Nat} (hS : S < 1024) (h0 : ¬ S = 0) (h1 : ¬ S &&& (S - 1) = 0) : tau w S = TRn w S (low S) (low (S &&& (S - 1))) := by
  have hle : S &&& (S - 1) ≤ S - 1 := Nat.and_le_right
  have e1 : tau w S = Su (S &&& (S - 1)) (fun B => if B.testBit (low (S &&& (S - 1))) = true then wS w (low S) B * (tauF w 1023 B * tauF w 1023 (sd S B)) else 0) := by
    show (if S = 0 then (0 : α) else if S &&& (S - 1) = 0 then 1 else _) = _
    rw [if_neg h0, if_neg h1]
  rw [e1, Su_rest hS h0]
  refine Su_congr (fun B hB e => ?_)
  try dsimp only
  cases hb : B.testBit (low S) with
  | true => rw [if_pos rfl, if_neg (fun g => absurd g.2 (by decide))]
  | false =>
    rw [if_neg (by decide)]
    by_cases c : B.testBit (low (S &&& (S - 1))) = true
    · have hBr := (rest_t (t := B) hS h0).mpr ⟨e, hb⟩
      have hBle : B ≤ S &&& (S - 1) := by rw [← hBr]; exact Nat.and_le_right
      have hlt : sd S B < S := sd_lss hS (sub_t.mp e _ c) c
      rw [if_pos c, if_pos ⟨c, rfl⟩]
      unfold tau
      rw [tauF_fuel 1023 1024 B hB (by omega) (by omega), tauF_fuel 1023 1024 (sd S B) (by omega) (by omega) (by omega)]
    · rw [if_neg c, if_neg (fun g => c g.1)]
/-- two parts of V, r in one and x in the other -/
def Kn {α : Type} [Lean.Grind.CommRing α] (w : Nat → Nat → α) (V r x : Nat) : α := Su V (fun B => if B.testBit x = true ∧ B.testBit r = false then tau w B * tau w (sd V B) else 0)
theorem K_sym {α : Type} [Lean.Grind.CommRing α] {w : Nat → Nat → α} {V r x : Nat} (hV : V < 1024) (hr : V.testBit r = true) (hx : V.testBit x = true) : Kn w V r x = Kn w V x r := by
  unfold Kn
  rw [← Su_compl hV]
  refine Su_congr (fun B hB e => ?_)
  try dsimp only
  have h1 : (sd V B).testBit r = !B.testBit r := by rw [sd_bit _ _ _ hV, hr]; simp
  have h2 : (sd V B).testBit x = !B.testBit x := by rw [sd_bit _ _ _ hV, hx]; simp
  rw [h1, h2, sd_sd hV e]
  cases B.testBit r <;> cases B.testBit x <;> simp
  exact Lean.Grind.CommSemiring.mul_comm _ _
theorem Su_nest {α : Type} [Lean.Grind.CommRing α] {S : Nat} (hS : S < 1024) {F : Nat → Nat → α} : Su S (fun B => Su B (fun C => F B C)) = Su S (fun C => Su (sd S C) (fun A => F (A ||| C) C)) := by
  have e1 : Su S (fun B => Su B (fun C => F B C)) = Sg (fun B => Sg (fun C => if B &&& S = B ∧ C &&& B = C then F B C else 0) 1024) 1024 := by
    refine Sg_congr 1024 (fun B _ => ?_)
    try dsimp only
    by_cases h : B &&& S = B
    · rw [if_pos h]
      refine Sg_congr 1024 (fun C _ => ?_)
      try dsimp only
      by_cases h2 : C &&& B = C
      · rw [if_pos h2, if_pos ⟨h, h2⟩]
      · rw [if_neg h2, if_neg (fun g => h2 g.2)]
    · rw [if_neg h, Sg_congr 1024 (g := fun _ => 0) (fun C _ => if_neg (fun g => h g.1)), Sg_0]
  rw [e1, Sg_swap]
  refine Sg_congr 1024 (fun C hC => ?_)
  try dsimp only
  by_cases hCS : C &&& S = C
  · rw [if_pos hCS]
    have hCs := sub_t.mp hCS
    unfold Su
    rw [← Sg_bij (f := fun B => if B &&& S = B ∧ C &&& B = C then F B C else 0) (p := fun B => B ^^^ C) (fun B hB => Nat.xor_lt_two_pow (n := 10) hB hC) (fun B _ => by rw [Nat.xor_assoc, Nat.xor_self, Nat.xor_zero])]
    refine Sg_congr 1024 (fun A hA => ?_)
    try dsimp only
    have hxb : ∀ i, (A ^^^ C).testBit i = ((A.testBit i) ^^ (C.testBit i)) := fun i => Nat.testBit_xor _ _ _
    by_cases hAC : A &&& sd S C = A
    · have hAs := sub_t.mp hAC
      have hno : ∀ i, C.testBit i = true → A.testBit i = false := fun i hi => Bool.eq_false_iff.mpr (fun g => by
        have := ((sd_t hS).mp (hAs i g)).2
        rw [hi] at this; cases this)
      have hor : A ^^^ C = A ||| C := by
        refine Nat.eq_of_testBit_eq (fun i => ?_)
        rw [hxb, Nat.testBit_or]
        cases hc : C.testBit i with
        | true => rw [hno i hc]; rfl
        | false => simp
      rw [if_pos hAC, hor, if_pos]
      refine ⟨sub_t.mpr (fun i hi => ?_), sub_t.mpr (fun i hi => or_t.mpr (Or.inr hi))⟩
      rcases or_t.mp hi with g | g
      · exact ((sd_t hS).mp (hAs i g)).1
      · exact hCs i g
    · rw [if_neg hAC, if_neg (fun g => hAC (sub_t.mpr (fun i hi => ?_)))]
      have hCB := sub_t.mp g.2
      have hBS := sub_t.mp g.1
      have hCi : C.testBit i = false := Bool.eq_false_iff.mpr (fun gc => by
        have := hCB i gc
        rw [hxb, hi, gc] at this; cases this)
      have hBi : (A ^^^ C).testBit i = true := by rw [hxb, hi, hCi]; rfl
      exact (sd_t hS).mpr ⟨hBS i hBi, hCi⟩
  · rw [if_neg hCS, Sg_congr 1024 (g := fun _ => 0) (fun B _ => if_neg (fun g => hCS (sub_t.mpr (fun i hi => sub_t.mp g.1 i (sub_t.mp g.2 i hi))))), Sg_0]
