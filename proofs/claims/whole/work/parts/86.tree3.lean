/-! one edge more, and two vertices made one -/
theorem tau_congr {α : Type} [Lean.Grind.CommRing α] {w w' : Nat → Nat → α} : ∀ S, S < 1024 → (∀ u v, S.testBit u = true → S.testBit v = true → u ≠ v → w u v = w' u v) → tau w S = tau w' S := by
  intro S
  refine wh_ind (P := fun S => S < 1024 → (∀ u v, S.testBit u = true → S.testBit v = true → u ≠ v → w u v = w' u v) → tau w S = tau w' S) (fun S => S) (fun S ih hS hww => ?_) S
  by_cases h0 : S = 0
  · rw [h0, tau_0, tau_0]
  · by_cases h1 : S &&& (S - 1) = 0
    · rw [tau_one h0 h1, tau_one h0 h1]
    · rw [tau_low hS h0 h1, tau_low hS h0 h1]
      have hlb := low_bit hS h0
      unfold TRn
      refine Su_congr (fun B hB e => ?_)
      try dsimp only
      by_cases c : B.testBit (low (S &&& (S - 1))) = true ∧ B.testBit (low S) = false
      · have hBS := sub_t.mp e
        have hlt : sd S B < S := sd_lss hS (hBS _ c.1) c.1
        have hBle : B ≤ S := subS_le hBS
        have hBne : B ≠ S := fun g => by rw [g, hlb] at c; exact absurd c.2 (by decide)
        rw [if_pos c, if_pos c, ih B (by omega) hB (fun u v hu hv => hww u v (hBS u hu) (hBS v hv)), ih _ hlt (by omega) (fun u v hu hv => hww u v ((sd_t hS).mp hu).1 ((sd_t hS).mp hv).1)]
        have e2 : wS w (low S) B = wS w' (low S) B := Sg_congr 10 (fun b _ => by
          cases hb : B.testBit b with
          | false => rfl
          | true => rw [if_pos rfl, if_pos rfl, hww _ _ hlb (hBS b hb) (fun g => by rw [← g, c.2] at hb; cases hb)])
        rw [e2]
      · rw [if_neg c, if_neg c]
theorem K_congr {α : Type} [Lean.Grind.CommRing α] {w w' : Nat → Nat → α} {S i j : Nat} (hS : S < 1024) (hww : ∀ u v, S.testBit u = true → S.testBit v = true → u ≠ v → ¬ ((u = i ∧ v = j) ∨ (u = j ∧ v = i)) → w u v = w' u v) : Kn w S i j = Kn w' S i j := by
  unfold Kn
  refine Su_congr (fun B hB e => ?_)
  try dsimp only
  by_cases c : B.testBit j = true ∧ B.testBit i = false
  · have hBS := sub_t.mp e
    rw [if_pos c, if_pos c, tau_congr B hB (fun u v hu hv hne => hww u v (hBS u hu) (hBS v hv) hne (fun g => ?_)), tau_congr (sd S B) (sd_lt hS) (fun u v hu hv hne => hww u v ((sd_t hS).mp hu).1 ((sd_t hS).mp hv).1 hne (fun g => ?_))]
    · have h1 := ((sd_t hS).mp hu).2
      have h2 := ((sd_t hS).mp hv).2
      rcases g with ⟨g1, g2⟩ | ⟨g1, g2⟩
      · rw [g2, c.1] at h2; cases h2
      · rw [g1, c.1] at h1; cases h1
    · rcases g with ⟨g1, g2⟩ | ⟨g1, g2⟩
      · rw [g1, c.2] at hu; cases hu
      · rw [g2, c.2] at hv; cases hv
  · rw [if_neg c, if_neg c]
theorem cr4 {α : Type} [Lean.Grind.CommRing α] (a b c : α) : a * c = b * c + (a - b) * c := by grind
theorem cr5 {α : Type} [Lean.Grind.CommRing α] (a b c : α) : a + c - (b + c) = a - b := by grind
/-- one edge's weight changed -/
theorem tau_edge {α : Type} [Lean.Grind.CommRing α] {w w' : Nat → Nat → α} (hw : ∀ u v, w u v = w v u) (hw' : ∀ u v, w' u v = w' v u) {S i j : Nat} (hS : S < 1024) (hi : i < 10) (hj : j < 10) (hSi : S.testBit i = true) (hSj : S.testBit j = true) (hij : i ≠ j) (hww : ∀ u v, S.testBit u = true → S.testBit v = true → u ≠ v → ¬ ((u = i ∧ v = j) ∨ (u = j ∧ v = i)) → w u v = w' u v) : tau w S = tau w' S + (w i j - w' i j) * Kn w' S i j := by
  rw [tau_any hw S hS i j hi hj hSi hSj hij, tau_any hw' S hS i j hi hj hSi hSj hij]
  unfold TRn Kn
  rw [← Su_mul, ← Su_add]
  refine Su_congr (fun B hB e => ?_)
  try dsimp only
  by_cases c : B.testBit j = true ∧ B.testBit i = false
  · have hBS := sub_t.mp e
    rw [if_pos c, if_pos c, if_pos c]
    have e1 : tau w B = tau w' B := tau_congr B hB (fun u v hu hv hne => hww u v (hBS u hu) (hBS v hv) hne (fun g => by
      rcases g with ⟨g1, g2⟩ | ⟨g1, g2⟩
      · rw [g1, c.2] at hu; cases hu
      · rw [g2, c.2] at hv; cases hv))
    have e2 : tau w (sd S B) = tau w' (sd S B) := tau_congr (sd S B) (sd_lt hS) (fun u v hu hv hne => hww u v ((sd_t hS).mp hu).1 ((sd_t hS).mp hv).1 hne (fun g => by
      have h1 := ((sd_t hS).mp hu).2
      have h2 := ((sd_t hS).mp hv).2
      rcases g with ⟨g1, g2⟩ | ⟨g1, g2⟩
      · rw [g2, c.1] at h2; cases h2
      · rw [g1, c.1] at h1; cases h1))
    have e3 : wS w i (sd B (2 ^ j)) = wS w' i (sd B (2 ^ j)) := Sg_congr 10 (fun b _ => by
      cases hb : (sd B (2 ^ j)).testBit b with
      | false => rfl
      | true =>
        obtain ⟨b1, b2⟩ := (sd_t hB).mp hb
        rw [if_pos rfl, if_pos rfl, hww i b hSi (hBS b b1) (fun g => by rw [← g, c.2] at b1; cases b1) (fun g => by
          rcases g with ⟨_, g2⟩ | ⟨g1, _⟩
          · rw [g2, pow_t.mpr rfl] at b2; cases b2
          · exact hij g1)])
    rw [e1, e2, wS_split hB hj c.1, wS_split (w := w') hB hj c.1, e3]
    grind
  · rw [if_neg c, if_neg c, if_neg c]; grind
/-- j made one with i -/
def cont {α : Type} [Lean.Grind.CommRing α] (w : Nat → Nat → α) (i j : Nat) : Nat → Nat → α := fun u v => if u = i then (if v = i then 0 else w i v + w j v) else if v = i then w u i + w u j else w u v
theorem cont_sym {α : Type} [Lean.Grind.CommRing α] {w : Nat → Nat → α} (hw : ∀ u v, w u v = w v u) (i j : Nat) : ∀ u v, cont w i j u v = cont w i j v u := by
  intro u v
  unfold cont
  by_cases h1 : u = i <;> by_cases h2 : v = i
  · rw [if_pos h1, if_pos h2, if_pos h2, if_pos h1]
  · rw [if_pos h1, if_neg h2, if_neg h2, if_pos h1, hw i v, hw j v]
  · rw [if_neg h1, if_pos h2, if_pos h2, if_neg h1, hw u i, hw u j]
  · rw [if_neg h1, if_neg h2, if_neg h2, if_neg h1, hw u v]
theorem wS_cont {α : Type} [Lean.Grind.CommRing α] {w : Nat → Nat → α} {i j L : Nat} (hi : L.testBit i = false) : wS (cont w i j) i L = wS w i L + wS w j L := by
  unfold wS
  rw [← Sg_add]
  refine Sg_congr 10 (fun b _ => ?_)
  try dsimp only
  cases hb : L.testBit b with
  | false => rw [if_neg (by decide), if_neg (by decide), if_neg (by decide)]; grind
  | true =>
    have hbi : b ≠ i := fun g => by rw [g, hi] at hb; cases hb
    rw [if_pos rfl, if_pos rfl, if_pos rfl]
    unfold cont
    rw [if_pos rfl, if_neg hbi]
theorem K_cont {α : Type} [Lean.Grind.CommRing α] {w : Nat → Nat → α} (hw : ∀ u v, w u v = w v u) {i j : Nat} (hi : i < 10) (hj : j < 10) (hij : i ≠ j) : ∀ S, S < 1024 → S.testBit i = true → S.testBit j = true → Kn w S i j = tau (cont w i j) (sd S (2 ^ j)) := by
  intro S
  refine wh_ind (P := fun S => S < 1024 → S.testBit i = true → S.testBit j = true → Kn w S i j = tau (cont w i j) (sd S (2 ^ j))) (fun S => S) (fun S ih hS hSi hSj => ?_) S
  have hji : (sd S (2 ^ j)).testBit i = true := (sd_t hS).mpr ⟨hSi, Bool.eq_false_iff.mpr (fun g => hij (pow_t.mp g))⟩
  by_cases ht : sd (sd S (2 ^ j)) (2 ^ i) = 0
  · -- only the two
    have hB : sd S (2 ^ j) = 2 ^ i := by
      refine eq_of_bits (fun b => ?_)
      rw [pow_t]
      constructor
      · intro h
        refine Classical.byContradiction (fun hne => ?_)
        have : (sd (sd S (2 ^ j)) (2 ^ i)).testBit b = true := (sd_t (sd_lt hS)).mpr ⟨h, Bool.eq_false_iff.mpr (fun g => hne (pow_t.mp g))⟩
        rw [ht] at this; simp at this
      · intro h; rw [h]; exact hji
    have hone : ∀ b, b < 10 → ∀ (u : Nat → Nat → α), tau u (2 ^ b) = 1 := by
      intro b hb u
      have h1 : ∀ b, b < 10 → ¬ 2 ^ b = 0 ∧ 2 ^ b &&& (2 ^ b - 1) = 0 := by decide
      exact tau_one (h1 b hb).1 (h1 b hb).2
    have hSe : sd S (2 ^ i) = 2 ^ j := by
      refine eq_of_bits (fun b => ?_)
      rw [pow_t, sd_t hS]
      constructor
      · rintro ⟨h, h2⟩
        refine Classical.byContradiction (fun hne => ?_)
        have : (sd S (2 ^ j)).testBit b = true := (sd_t hS).mpr ⟨h, Bool.eq_false_iff.mpr (fun g => hne (pow_t.mp g))⟩
        rw [hB] at this
        rw [this] at h2; cases h2
      · intro h; rw [h]; exact ⟨hSj, Bool.eq_false_iff.mpr (fun g => hij (pow_t.mp g).symm)⟩
    rw [hB, hone i hi]
    unfold Kn Su
    rw [Sg_one (l := 2 ^ j) 1024 (pow_lt hj) (fun B hB2 hne => ?_)]
    · rw [if_pos (sub_t.mpr (fun b hb => by rw [pow_t.mp hb]; exact hSj))]
      try dsimp only
      rw [if_pos ⟨pow_t.mpr rfl, Bool.eq_false_iff.mpr (fun g => hij (pow_t.mp g))⟩, hB, hone i hi, hone j hj]
      grind
    · by_cases e : B &&& S = B
      · rw [if_pos e]
        try dsimp only
        rw [if_neg (fun g => hne ?_)]
        refine eq_of_bits (fun b => ?_)
        rw [pow_t]
        constructor
        · intro h
          have h2 : (sd S (2 ^ i)).testBit b = true := (sd_t hS).mpr ⟨sub_t.mp e b h, Bool.eq_false_iff.mpr (fun g2 => by rw [pow_t.mp g2, g.2] at h; cases h)⟩
          rw [hSe] at h2
          exact pow_t.mp h2
        · intro h; rw [h]; exact g.1
      · rw [if_neg e]
  · -- a third vertex
    have ht0 := low_bit (sd_lt (sd_lt hS)) ht
    have htl := low_lt (sd_lt (sd_lt hS)) ht
    generalize htt : low (sd (sd S (2 ^ j)) (2 ^ i)) = t at ht0 htl
    obtain ⟨hb1, hti⟩ := (sd_t (sd_lt hS)).mp ht0
    obtain ⟨hSt, htj⟩ := (sd_t hS).mp hb1
    have hti' : t ≠ i := fun g => by rw [g, pow_t.mpr rfl] at hti; cases hti
    have htj' : t ≠ j := fun g => by rw [g, pow_t.mpr rfl] at htj; cases htj
    -- the right side
    have eR : tau (cont w i j) (sd S (2 ^ j)) = Su S (fun L => if L.testBit t = true ∧ L.testBit i = false ∧ L.testBit j = false then (wS w i L + wS w j L) * (tau w L * Kn w (sd S L) i j) else 0) := by
      rw [tau_any (cont_sym hw i j) _ (sd_lt hS) i t hi htl hji hb1 (fun g => hti' g.symm)]
      unfold TRn Su
      refine Sg_congr 1024 (fun L hL => ?_)
      try dsimp only
      have hsub : L &&& sd S (2 ^ j) = L ↔ L &&& S = L ∧ L.testBit j = false := by
        rw [sub_t, sub_t]
        constructor
        · intro h
          refine ⟨fun b hb => ((sd_t hS).mp (h b hb)).1, Bool.eq_false_iff.mpr (fun g => ?_)⟩
          have := ((sd_t hS).mp (h j g)).2
          rw [pow_t.mpr rfl] at this; cases this
        · rintro ⟨h1, h2⟩ b hb
          exact (sd_t hS).mpr ⟨h1 b hb, Bool.eq_false_iff.mpr (fun g => by rw [pow_t.mp g, h2] at hb; cases hb)⟩
      by_cases e : L &&& S = L
      · rw [if_pos e]
        cases hLj : L.testBit j with
        | true => rw [if_neg (fun g => by have := (hsub.mp g).2; rw [hLj] at this; cases this), if_neg (fun g => absurd g.2.2 (by decide))]
        | false =>
          rw [if_pos (hsub.mpr ⟨e, hLj⟩)]
          by_cases c : L.testBit t = true ∧ L.testBit i = false
          · rw [if_pos c, if_pos ⟨c.1, c.2, rfl⟩, wS_cont c.2]
            have hlt : sd S L < S := sd_lss hS (sub_t.mp e _ c.1) c.1
            have e1 : tau (cont w i j) L = tau w L := tau_congr L hL (fun u v hu hv _ => by
              unfold cont
              rw [if_neg (fun g => by rw [g, c.2] at hu; cases hu), if_neg (fun g => by rw [g, c.2] at hv; cases hv)])
            rw [e1, sd_comm hS, ← ih _ hlt (by omega) ((sd_t hS).mpr ⟨hSi, c.2⟩) ((sd_t hS).mpr ⟨hSj, hLj⟩)]
          · rw [if_neg c, if_neg (fun g => c ⟨g.1, g.2.1⟩)]
      · rw [if_neg e, if_neg (fun g => e (hsub.mp g).1)]
    -- the left side
    have eL : Kn w S i j = Su S (fun B => Su B (fun L => if (B.testBit j = true ∧ B.testBit i = false) ∧ (L.testBit t = true ∧ L.testBit j = false) then wS w j L * (tau w L * tau w (sd B L)) * tau w (sd S B) else 0)) + Su S (fun B => Su (sd S B) (fun L => if (B.testBit j = true ∧ B.testBit i = false) ∧ (L.testBit t = true ∧ L.testBit i = false) then tau w B * (wS w i L * (tau w L * tau w (sd (sd S B) L))) else 0)) := by
      rw [← Su_add]
      unfold Kn
      refine Su_congr (fun B hB e => ?_)
      try dsimp only
      have hBS := sub_t.mp e
      by_cases c : B.testBit j = true ∧ B.testBit i = false
      · rw [if_pos c]
        cases hBt : B.testBit t with
        | true =>
          have e1 : Su (sd S B) (fun L => if (B.testBit j = true ∧ B.testBit i = false) ∧ (L.testBit t = true ∧ L.testBit i = false) then tau w B * (wS w i L * (tau w L * tau w (sd (sd S B) L))) else 0) = 0 := by
            rw [Su_congr (g := fun _ => 0) (fun L hL e2 => if_neg (fun g => ?_)), Su_0]
            have := ((sd_t hS).mp (sub_t.mp e2 _ g.2.1)).2
            rw [hBt] at this; cases this
          rw [e1, tau_any hw B hB j t hj htl c.1 hBt (fun g => htj' g.symm)]
          unfold TRn
          rw [Lean.Grind.CommSemiring.mul_comm, ← Su_mul]
          have e2 : ∀ a b : α, a = b → a = b + 0 := fun a b h => by rw [h]; grind
          refine e2 _ _ (Su_congr (fun L hL e3 => ?_))
          try dsimp only
          by_cases c2 : L.testBit t = true ∧ L.testBit j = false
          · rw [if_pos c2, if_pos ⟨c, c2⟩]; exact Lean.Grind.CommSemiring.mul_comm _ _
          · rw [if_neg c2, if_neg (fun g => c2 g.2)]; grind
        | false =>
          have e1 : Su B (fun L => if (B.testBit j = true ∧ B.testBit i = false) ∧ (L.testBit t = true ∧ L.testBit j = false) then wS w j L * (tau w L * tau w (sd B L)) * tau w (sd S B) else 0) = 0 := by
            rw [Su_congr (g := fun _ => 0) (fun L hL e2 => if_neg (fun g => ?_)), Su_0]
            have := sub_t.mp e2 _ g.2.1
            rw [hBt] at this; cases this
          rw [e1, tau_any hw (sd S B) (sd_lt hS) i t hi htl ((sd_t hS).mpr ⟨hSi, c.2⟩) ((sd_t hS).mpr ⟨hSt, hBt⟩) (fun g => hti' g.symm)]
          unfold TRn
          rw [← Su_mul]
          have e2 : ∀ a b : α, a = b → a = 0 + b := fun a b h => by rw [h]; grind
          refine e2 _ _ (Su_congr (fun L hL e3 => ?_))
          try dsimp only
          by_cases c2 : L.testBit t = true ∧ L.testBit i = false
          · rw [if_pos c2, if_pos ⟨c, c2⟩]
          · rw [if_neg c2, if_neg (fun g => c2 g.2)]; grind
      · rw [if_neg c, Su_congr (g := fun _ => 0) (fun L hL e2 => if_neg (fun g => c g.1)), Su_0, Su_congr (g := fun _ => 0) (fun L hL e2 => if_neg (fun g => c g.1)), Su_0]
        grind
    rw [eL, eR, Su_nest hS, Su_swap hS (F := fun B L => if (B.testBit j = true ∧ B.testBit i = false) ∧ (L.testBit t = true ∧ L.testBit i = false) then tau w B * (wS w i L * (tau w L * tau w (sd (sd S B) L))) else 0), ← Su_add]
    refine Su_congr (fun L hL e => ?_)
    try dsimp only
    by_cases c : L.testBit t = true ∧ L.testBit i = false ∧ L.testBit j = false
    · rw [if_pos c]
      have e1 : Su (sd S L) (fun A => if ((A ||| L).testBit j = true ∧ (A ||| L).testBit i = false) ∧ (L.testBit t = true ∧ L.testBit j = false) then wS w j L * (tau w L * tau w (sd (A ||| L) L)) * tau w (sd S (A ||| L)) else 0) = wS w j L * tau w L * Kn w (sd S L) i j := by
        unfold Kn
        rw [← Su_mul]
        refine Su_congr (fun A hA e2 => ?_)
        try dsimp only
        have hAs := sub_t.mp e2
        have hdis : ∀ b, L.testBit b = true → A.testBit b = false := fun b hb => Bool.eq_false_iff.mpr (fun g => by
          have := ((sd_t hS).mp (hAs b g)).2
          rw [hb] at this; cases this)
        have ho : A ||| L < 1024 := or_lt hA hL
        have e3 : sd (A ||| L) L = A := by
          refine eq_of_bits (fun b => ?_)
          rw [sd_t ho, or_t]
          constructor
          · rintro ⟨g | g, g2⟩
            · exact g
            · rw [g] at g2; cases g2
          · intro g
            exact ⟨Or.inl g, Bool.eq_false_iff.mpr (fun g2 => by rw [hdis b g2] at g; cases g)⟩
        have e4 : sd S (A ||| L) = sd (sd S L) A := by
          refine eq_of_bits (fun b => ?_)
          rw [sd_t hS, sd_t (sd_lt hS), sd_t hS, Nat.testBit_or]
          cases A.testBit b <;> cases L.testBit b <;> simp
        have b1 : (A ||| L).testBit j = A.testBit j := by rw [Nat.testBit_or, c.2.2]; simp
        have b2 : (A ||| L).testBit i = A.testBit i := by rw [Nat.testBit_or, c.2.1]; simp
        rw [e3, e4, b1, b2]
        by_cases cA : A.testBit j = true ∧ A.testBit i = false
        · rw [if_pos ⟨cA, c.1, c.2.2⟩, if_pos cA]; grind
        · rw [if_neg (fun g => cA g.1), if_neg cA]; grind
      have e2 : Su (sd S L) (fun B => if (B.testBit j = true ∧ B.testBit i = false) ∧ (L.testBit t = true ∧ L.testBit i = false) then tau w B * (wS w i L * (tau w L * tau w (sd (sd S B) L))) else 0) = wS w i L * tau w L * Kn w (sd S L) i j := by
        unfold Kn
        rw [← Su_mul]
        refine Su_congr (fun B hB e2 => ?_)
        try dsimp only
        rw [sd_comm hS]
        by_cases cB : B.testBit j = true ∧ B.testBit i = false
        · rw [if_pos ⟨cB, c.1, c.2.1⟩, if_pos cB]; grind
        · rw [if_neg (fun g => cB g.1), if_neg cB]; grind
      rw [e1, e2]
      grind
    · rw [if_neg c]
      have e1 : Su (sd S L) (fun A => if ((A ||| L).testBit j = true ∧ (A ||| L).testBit i = false) ∧ (L.testBit t = true ∧ L.testBit j = false) then wS w j L * (tau w L * tau w (sd (A ||| L) L)) * tau w (sd S (A ||| L)) else 0) = 0 := by
        rw [Su_congr (g := fun _ => 0) (fun A hA e2 => if_neg (fun g => c ⟨g.2.1, Bool.eq_false_iff.mpr (fun g2 => ?_), g.2.2⟩)), Su_0]
        have := g.1.2
        rw [or_t.mpr (Or.inr g2)] at this; cases this
      have e2 : Su (sd S L) (fun B => if (B.testBit j = true ∧ B.testBit i = false) ∧ (L.testBit t = true ∧ L.testBit i = false) then tau w B * (wS w i L * (tau w L * tau w (sd (sd S B) L))) else 0) = 0 := by
        rw [Su_congr (g := fun _ => 0) (fun B hB e2 => if_neg (fun g => c ⟨g.2.1, g.2.2, Bool.eq_false_iff.mpr (fun g2 => ?_)⟩)), Su_0]
        have := ((sd_t hS).mp (sub_t.mp e2 _ g.1.1)).2
        rw [g2] at this; cases this
      rw [e1, e2]
      grind
