/-! trees from any root -/
theorem addG {α : Type} [Lean.Grind.CommRing α] {a b c d : α} (h1 : a = c) (h2 : b = d) : a + b = c + d := by rw [h1, h2]
theorem wS_split {α : Type} [Lean.Grind.CommRing α] {w : Nat → Nat → α} {r B x : Nat} (hB : B < 1024) (hx : x < 10) (h : B.testBit x = true) : wS w r B = w r x + wS w r (sd B (2 ^ x)) := by
  unfold wS
  have e : Sg (fun b => if B.testBit b = true then w r b else 0) 10 = Sg (fun b => (if b = x then w r b else 0) + (if (sd B (2 ^ x)).testBit b = true then w r b else 0)) 10 := by
    refine Sg_congr 10 (fun b hb => ?_)
    try dsimp only
    by_cases e : b = x
    · subst e
      rw [if_pos h, if_pos rfl, if_neg (fun g => by have := ((sd_t hB).mp g).2; rw [pow_t.mpr rfl] at this; cases this)]
      grind
    · rw [if_neg e]
      cases hBb : B.testBit b with
      | true => rw [if_pos rfl, if_pos ((sd_t hB).mpr ⟨hBb, Bool.eq_false_iff.mpr (fun g => e (pow_t.mp g))⟩)]; grind
      | false => rw [if_neg (by decide), if_neg (fun g => by rw [((sd_t hB).mp g).1] at hBb; cases hBb)]; grind
  rw [e, Sg_add, Sg_one (l := x) (f := fun b => if b = x then w r b else 0) 10 hx (fun k _ hne => if_neg hne), if_pos rfl]
/-- what all smaller sets keep -/
def TAU {α : Type} [Lean.Grind.CommRing α] (w : Nat → Nat → α) (S : Nat) : Prop := ∀ r t, r < 10 → t < 10 → S.testBit r = true → S.testBit t = true → r ≠ t → tau w S = TRn w S r t
theorem cr1 {α : Type} [Lean.Grind.CommRing α] (a b c d e : α) : a * (b * (c * (d * e))) = c * (d * (a * (b * e))) := by grind
theorem tr_t {α : Type} [Lean.Grind.CommRing α] {w : Nat → Nat → α} {S : Nat} (hS : S < 1024) (ih : ∀ V, V < S → TAU w V) {r t x : Nat} (hr : r < 10) (ht : t < 10) (hx : x < 10) (hSr : S.testBit r = true) (hSx : S.testBit x = true) (hxr : x ≠ r) : Su S (fun B => if B.testBit t = true ∧ B.testBit x = false ∧ B.testBit r = false then wS w r B * (tau w B * tau w (sd S B)) else 0) = Su S (fun B => Su (sd S B) (fun C => if (B.testBit t = true ∧ B.testBit r = false) ∧ (C.testBit x = true ∧ C.testBit r = false) then wS w r B * (tau w B * (wS w r C * (tau w C * tau w (sd (sd S B) C)))) else 0)) := by
  refine Su_congr (fun B hB e => ?_)
  try dsimp only
  by_cases c : B.testBit t = true ∧ B.testBit x = false ∧ B.testBit r = false
  · rw [if_pos c]
    have hlt : sd S B < S := sd_lss hS (sub_t.mp e _ c.1) c.1
    have h1 : (sd S B).testBit r = true := (sd_t hS).mpr ⟨hSr, c.2.2⟩
    have h2 : (sd S B).testBit x = true := (sd_t hS).mpr ⟨hSx, c.2.1⟩
    rw [ih _ hlt r x hr hx h1 h2 (fun g => hxr g.symm)]
    unfold TRn
    rw [← Su_mul, ← Su_mul]
    refine Su_congr (fun C hC e2 => ?_)
    try dsimp only
    by_cases c2 : C.testBit x = true ∧ C.testBit r = false
    · rw [if_pos c2, if_pos ⟨⟨c.1, c.2.2⟩, c2⟩]
    · rw [if_neg c2, if_neg (fun g => c2 g.2)]; grind
  · rw [if_neg c, Su_congr (g := fun _ => 0) (fun C hC e2 => if_neg (fun g => c ⟨g.1.1, Bool.eq_false_iff.mpr (fun gx => ?_), g.1.2⟩)), Su_0]
    have := ((sd_t hS).mp (sub_t.mp e2 _ g.2.1)).2
    rw [gx] at this; cases this
/-- the limb may be that of any other vertex -/
theorem tr_any {α : Type} [Lean.Grind.CommRing α] {w : Nat → Nat → α} {S : Nat} (hS : S < 1024) (ih : ∀ V, V < S → TAU w V) {r t x : Nat} (hr : r < 10) (ht : t < 10) (hx : x < 10) (hSr : S.testBit r = true) (hSt : S.testBit t = true) (hSx : S.testBit x = true) (htr : t ≠ r) (hxr : x ≠ r) : TRn w S r t = TRn w S r x := by
  have hsplit : ∀ t x, TRn w S r t = Su S (fun B => if B.testBit t = true ∧ B.testBit x = true ∧ B.testBit r = false then wS w r B * (tau w B * tau w (sd S B)) else 0) + Su S (fun B => if B.testBit t = true ∧ B.testBit x = false ∧ B.testBit r = false then wS w r B * (tau w B * tau w (sd S B)) else 0) := by
    intro t x
    unfold TRn
    rw [← Su_add]
    refine Su_congr (fun B hB e => ?_)
    try dsimp only
    cases B.testBit t <;> cases B.testBit x <;> cases B.testBit r <;> simp <;> grind
  rw [hsplit t x, hsplit x t, tr_t hS ih hr ht hx hSr hSx hxr, tr_t hS ih hr hx ht hSr hSt htr]
  have e1 : Su S (fun B => if B.testBit t = true ∧ B.testBit x = true ∧ B.testBit r = false then wS w r B * (tau w B * tau w (sd S B)) else 0) = Su S (fun B => if B.testBit x = true ∧ B.testBit t = true ∧ B.testBit r = false then wS w r B * (tau w B * tau w (sd S B)) else 0) := by
    refine Su_congr (fun B hB e => ?_)
    try dsimp only
    cases B.testBit t <;> cases B.testBit x <;> simp
  have e2 : Su S (fun B => Su (sd S B) (fun C => if (B.testBit t = true ∧ B.testBit r = false) ∧ (C.testBit x = true ∧ C.testBit r = false) then wS w r B * (tau w B * (wS w r C * (tau w C * tau w (sd (sd S B) C)))) else 0)) = Su S (fun B => Su (sd S B) (fun C => if (B.testBit x = true ∧ B.testBit r = false) ∧ (C.testBit t = true ∧ C.testBit r = false) then wS w r B * (tau w B * (wS w r C * (tau w C * tau w (sd (sd S B) C)))) else 0)) := by
    rw [Su_swap hS]
    refine Su_congr (fun C hC e => Su_congr (fun B hB e2 => ?_))
    try dsimp only
    by_cases c : (B.testBit t = true ∧ B.testBit r = false) ∧ (C.testBit x = true ∧ C.testBit r = false)
    · rw [if_pos c, if_pos ⟨c.2, c.1⟩, sd_comm hS]
      exact cr1 _ _ _ _ _
    · rw [if_neg c, if_neg (fun g => c ⟨g.2, g.1⟩)]
  rw [e1, e2]
theorem cr2 {α : Type} [Lean.Grind.CommRing α] (a b c d : α) : (a + b) * (c * d) = a * (c * d) + b * c * d := by grind
theorem cr3 {α : Type} [Lean.Grind.CommRing α] (a b c d e : α) : a * (b * (c * d)) * e = a * (b * c) * (d * e) := by grind
/-- the root may change places with the other -/
theorem tr_root {α : Type} [Lean.Grind.CommRing α] {w : Nat → Nat → α} {S : Nat} (hS : S < 1024) (ih : ∀ V, V < S → TAU w V) {r x : Nat} (hr : r < 10) (hx : x < 10) (hSr : S.testBit r = true) (hSx : S.testBit x = true) (hrx : r ≠ x) : TRn w S r x = w r x * Kn w S r x + Su S (fun C => if C.testBit r = false ∧ C.testBit x = false then wS w r C * (wS w x C * tau w C) * Kn w (sd S C) r x else 0) := by
  have e1 : TRn w S r x = Su S (fun B => (if B.testBit x = true ∧ B.testBit r = false then w r x * (tau w B * tau w (sd S B)) else 0) + Su B (fun C => if (B.testBit x = true ∧ B.testBit r = false) ∧ C.testBit x = false then wS w r C * (wS w x C * (tau w C * tau w (sd B C))) * tau w (sd S B) else 0)) := by
    unfold TRn
    refine Su_congr (fun B hB e => ?_)
    try dsimp only
    by_cases c : B.testBit x = true ∧ B.testBit r = false
    · rw [if_pos c, if_pos c]
      have hBS : B ≤ S := by rw [← e]; exact Nat.and_le_right
      have hBne : B ≠ S := fun g => by rw [g, hSr] at c; exact absurd c.2 (by decide)
      have hb : wS w r (sd B (2 ^ x)) * tau w B = Su B (fun C => if C.testBit x = false then wS w r C * (wS w x C * (tau w C * tau w (sd B C))) else 0) := by
        have h1 : wS w r (sd B (2 ^ x)) * tau w B = Sg (fun b => Su B (fun C => if C.testBit x = false then (if C.testBit b = true then w r b else 0) * (wS w x C * (tau w C * tau w (sd B C))) else 0)) 10 := by
          have h2 : wS w r (sd B (2 ^ x)) * tau w B = Sg (fun b => tau w B * (if (sd B (2 ^ x)).testBit b = true then w r b else 0)) 10 := by
            rw [Sg_mul]; exact Lean.Grind.CommSemiring.mul_comm _ _
          rw [h2]
          refine Sg_congr 10 (fun b hb10 => ?_)
          try dsimp only
          by_cases cb : (sd B (2 ^ x)).testBit b = true
          · obtain ⟨b1, b2⟩ := (sd_t hB).mp cb
            have hbx : x ≠ b := fun g => by rw [← g, pow_t.mpr rfl] at b2; cases b2
            rw [if_pos cb, ih B (by omega) x b hx hb10 c.1 b1 hbx, Lean.Grind.CommSemiring.mul_comm]
            unfold TRn
            rw [← Su_mul]
            refine Su_congr (fun C hC e2 => ?_)
            try dsimp only
            cases C.testBit b <;> cases C.testBit x <;> simp <;> grind
          · rw [if_neg cb]
            have hz : Su B (fun C => if C.testBit x = false then (if C.testBit b = true then w r b else 0) * (wS w x C * (tau w C * tau w (sd B C))) else 0) = 0 := by
              rw [Su_congr (g := fun _ => 0) (fun C hC e2 => ?_), Su_0]
              by_cases cx : C.testBit x = false
              · rw [if_pos cx, if_neg (fun g => cb ((sd_t hB).mpr ⟨sub_t.mp e2 _ g, Bool.eq_false_iff.mpr (fun g2 => by rw [pow_t.mp g2, cx] at g; cases g)⟩))]
                grind
              · rw [if_neg cx]
            rw [hz]; grind
        rw [h1, ← Su_Sg]
        refine Su_congr (fun C hC e2 => ?_)
        try dsimp only
        by_cases cx : C.testBit x = false
        · rw [if_pos cx]
          have h3 : Sg (fun b => if C.testBit x = false then (if C.testBit b = true then w r b else 0) * (wS w x C * (tau w C * tau w (sd B C))) else 0) 10 = Sg (fun b => (wS w x C * (tau w C * tau w (sd B C))) * (if C.testBit b = true then w r b else 0)) 10 := Sg_congr 10 (fun b _ => by rw [if_pos cx]; exact Lean.Grind.CommSemiring.mul_comm _ _)
          rw [h3, Sg_mul]
          exact Lean.Grind.CommSemiring.mul_comm _ _
        · rw [if_neg cx, Sg_congr 10 (g := fun _ => 0) (fun b _ => if_neg cx), Sg_0]
      rw [wS_split hB hx c.1, cr2, hb]
      congr 1
      rw [Lean.Grind.CommSemiring.mul_comm, ← Su_mul]
      refine Su_congr (fun C hC e2 => ?_)
      try dsimp only
      by_cases cx : C.testBit x = false
      · rw [if_pos cx, if_pos ⟨c, cx⟩]; exact Lean.Grind.CommSemiring.mul_comm _ _
      · rw [if_neg cx, if_neg (fun g => cx g.2)]; grind
    · rw [if_neg c, if_neg c, Su_congr (g := fun _ => 0) (fun C hC e2 => if_neg (fun g => c g.1)), Su_0]; grind
  rw [e1, Su_add, Su_nest hS]
  refine addG ?_ ?_
  · unfold Kn
    rw [← Su_mul]
    refine Su_congr (fun B hB e => ?_)
    try dsimp only
    split
    · rfl
    · grind
  · refine Su_congr (fun C hC e => ?_)
    try dsimp only
    by_cases c : C.testBit r = false ∧ C.testBit x = false
    · rw [if_pos c]
      unfold Kn
      rw [← Su_mul]
      refine Su_congr (fun A hA e2 => ?_)
      try dsimp only
      have hAs := sub_t.mp e2
      have hdis : ∀ i, C.testBit i = true → A.testBit i = false := fun i hi => Bool.eq_false_iff.mpr (fun g => by
        have := ((sd_t hS).mp (hAs i g)).2
        rw [hi] at this; cases this)
      have ho : A ||| C < 1024 := or_lt hA hC
      have e3 : sd (A ||| C) C = A := by
        refine eq_of_bits (fun i => ?_)
        rw [sd_t ho, or_t]
        constructor
        · rintro ⟨g | g, g2⟩
          · exact g
          · rw [g] at g2; cases g2
        · intro g
          refine ⟨Or.inl g, Bool.eq_false_iff.mpr (fun g2 => by rw [hdis i g2] at g; cases g)⟩
      have e4 : sd S (A ||| C) = sd (sd S C) A := by
        refine eq_of_bits (fun i => ?_)
        rw [sd_t hS, sd_t (sd_lt hS), sd_t hS, Nat.testBit_or]
        cases A.testBit i <;> cases C.testBit i <;> simp
      have b1 : (A ||| C).testBit x = A.testBit x := by rw [Nat.testBit_or, c.2]; simp
      have b2 : (A ||| C).testBit r = A.testBit r := by rw [Nat.testBit_or, c.1]; simp
      rw [e3, e4, b1, b2]
      by_cases cA : A.testBit x = true ∧ A.testBit r = false
      · rw [if_pos ⟨cA, c.2⟩, if_pos cA]; exact cr3 _ _ _ _ _
      · rw [if_neg (fun g => cA g.1), if_neg cA]; grind
    · rw [if_neg c, Su_congr (g := fun _ => 0) (fun A hA e2 => if_neg (fun g => c ⟨?_, g.2⟩)), Su_0]
      refine Bool.eq_false_iff.mpr (fun gr => ?_)
      have h5 := g.1.2
      rw [or_t.mpr (Or.inr gr)] at h5; cases h5
theorem tr_swap {α : Type} [Lean.Grind.CommRing α] {w : Nat → Nat → α} (hw : ∀ u v, w u v = w v u) {S : Nat} (hS : S < 1024) (ih : ∀ V, V < S → TAU w V) {r x : Nat} (hr : r < 10) (hx : x < 10) (hSr : S.testBit r = true) (hSx : S.testBit x = true) (hrx : r ≠ x) : TRn w S r x = TRn w S x r := by
  rw [tr_root hS ih hr hx hSr hSx hrx, tr_root hS ih hx hr hSx hSr (fun g => hrx g.symm), hw r x, K_sym hS hSr hSx]
  refine addG rfl ?_
  refine Su_congr (fun C hC e => ?_)
  try dsimp only
  by_cases c : C.testBit r = false ∧ C.testBit x = false
  · rw [if_pos c, if_pos ⟨c.2, c.1⟩, K_sym (sd_lt hS) ((sd_t hS).mpr ⟨hSr, c.1⟩) ((sd_t hS).mpr ⟨hSx, c.2⟩)]
    grind
  · rw [if_neg c, if_neg (fun g => c ⟨g.2, g.1⟩)]
/-- trees: any root, any limb -/
theorem tau_any {α : Type} [Lean.Grind.CommRing α] {w : Nat → Nat → α} (hw : ∀ u v, w u v = w v u) : ∀ S, S < 1024 → TAU w S := by
  intro S
  refine wh_ind (P := fun S => S < 1024 → TAU w S) (fun S => S) (fun S ih hS => ?_) S
  intro r t hr ht hSr hSt hrt
  have ih' : ∀ V, V < S → TAU w V := fun V hV => ih V hV (by omega)
  have h0 : ¬ S = 0 := fun g => by rw [g] at hSr; simp at hSr
  have hl := low_lt hS h0
  have hlb := low_bit hS h0
  have h1 : ¬ S &&& (S - 1) = 0 := fun g => by
    have a := (lowrest_t hS h0).mp hSr
    have b := (lowrest_t hS h0).mp hSt
    rw [g] at a b
    simp at a b
    exact hrt (a.trans b.symm)
  have hrl : S &&& (S - 1) < 1024 := and_lt hS
  have hm := low_bit hrl h1
  have hml := low_lt hrl h1
  have hSm : S.testBit (low (S &&& (S - 1))) = true := (lowrest_t hS h0).mpr (Or.inr hm)
  have hmne : low (S &&& (S - 1)) ≠ low S := fun g => by
    rw [g, lowrest S hS h0] at hm
    have := ((sd_t hS).mp hm).2
    rw [pow_t.mpr rfl] at this; cases this
  rw [tau_low hS h0 h1]
  by_cases e : r = low S
  · rw [← e] at hmne ⊢
    exact tr_any hS ih' hr hml ht hSr hSm hSt hmne (fun g => hrt g.symm)
  · rw [tr_any hS ih' hr ht hl hSr hSt hlb (fun g => hrt g.symm) (fun g => e g.symm), tr_swap hw hS ih' hr hl hSr hlb e]
    exact tr_any hS ih' hl hml hr hlb hSm hSr hmne e
