/-! a vertex taken out: its star becomes a mesh -/
theorem q_add {a b : Rat} (ha : 0 ≤ a) (hb : 0 ≤ b) : 0 ≤ a + b := by grind
theorem q_mul {a b : Rat} (ha : 0 ≤ a) (hb : 0 ≤ b) : 0 ≤ a * b := Rat.mul_nonneg ha hb
theorem q_div {a b : Rat} (ha : 0 ≤ a) (hb : 0 ≤ b) : 0 ≤ a / b := by
  rw [Rat.div_def]
  exact Rat.mul_nonneg ha (by
    rcases Classical.em (b = 0) with h | h
    · rw [h]; simp
    · have hp : 0 < b := by grind
      exact Rat.le_of_lt (Rat.inv_pos.mpr hp))
theorem q_pos {a : Rat} (h : 0 ≤ a) (h0 : ¬ a = 0) : 0 < a := by grind
theorem SgQ_nn {f : Nat → Rat} : ∀ n, (∀ k, k < n → 0 ≤ f k) → 0 ≤ Sg f n
  | 0, _ => by show (0 : Rat) ≤ 0; grind
  | n + 1, h => by rw [Sg_s]; exact q_add (SgQ_nn n (fun k hk => h k (by omega))) (h n (by omega))
theorem SgQ_zero {f : Nat → Rat} : ∀ n, (∀ k, k < n → 0 ≤ f k) → Sg f n = 0 → ∀ k, k < n → f k = 0
  | 0, _, _, k, hk => absurd hk (Nat.not_lt_zero _)
  | n + 1, h, hz, k, hk => by
    rw [Sg_s] at hz
    have h1 := SgQ_nn n (fun k hk => h k (by omega))
    have h2 := h n (by omega)
    have h3 : Sg f n = 0 := by grind
    have h4 : f n = 0 := by grind
    by_cases e : k = n
    · rw [e]; exact h4
    · exact SgQ_zero n (fun k hk => h k (by omega)) h3 k (by omega)
def mesh (w : Nat → Nat → Rat) (k : Nat) (D : Rat) : Nat → Nat → Rat := fun i j => w i j + w k i * w k j / D
theorem mesh_sym {w : Nat → Nat → Rat} (hw : ∀ u v, w u v = w v u) (k : Nat) (D : Rat) : ∀ u v, mesh w k D u v = mesh w k D v u := by
  intro u v
  unfold mesh
  rw [hw u v]
  grind
theorem mesh_nn {w : Nat → Nat → Rat} (hw : ∀ u v, 0 ≤ w u v) (k : Nat) {D : Rat} (hD : 0 ≤ D) : ∀ u v, 0 ≤ mesh w k D u v := fun u v => q_add (hw u v) (q_div (q_mul (hw k u) (hw k v)) hD)
theorem wS_nn {w : Nat → Nat → Rat} (hw : ∀ u v, 0 ≤ w u v) (r B : Nat) : 0 ≤ wS w r B := SgQ_nn 10 (fun b _ => by split; exact hw r b; exact Rat.le_refl)
theorem wS_zero {w : Nat → Nat → Rat} (hw : ∀ u v, 0 ≤ w u v) {r B : Nat} (hB : B < 1024) (h : wS w r B = 0) : ∀ b, B.testBit b = true → w r b = 0 := by
  intro b hb
  have := SgQ_zero 10 (fun b _ => by split; exact hw r b; exact Rat.le_refl) h b (bit_lt10 hB hb)
  rw [if_pos hb] at this
  exact this
/-- a vertex alone beside others -/
theorem tau_iso {α : Type} [Lean.Grind.CommRing α] {w : Nat → Nat → α} (hw : ∀ u v, w u v = w v u) {S a t : Nat} (hS : S < 1024) (ha : a < 10) (ht : t < 10) (hSa : S.testBit a = true) (hSt : S.testBit t = true) (hat : a ≠ t) (hz : ∀ b, S.testBit b = true → b ≠ a → w a b = 0) : tau w S = 0 := by
  rw [tau_any hw S hS a t ha ht hSa hSt hat]
  unfold TRn
  rw [Su_congr (g := fun _ => 0) (fun B hB e => ?_), Su_0]
  by_cases c : B.testBit t = true ∧ B.testBit a = false
  · have h1 : wS w a B = 0 := by
      unfold wS
      rw [Sg_congr 10 (g := fun _ => 0) (fun b _ => ?_), Sg_0]
      cases hb : B.testBit b with
      | false => rfl
      | true => rw [if_pos rfl]; exact hz b (sub_t.mp e b hb) (fun g => by rw [g, c.2] at hb; cases hb)
    rw [if_pos c, h1]; grind
  · rw [if_neg c]
theorem two_of {S a : Nat} (hS : S < 1024) (ha : S.testBit a = true) (h : ¬ sd S (2 ^ a) = 0) : ∃ t, t < 10 ∧ S.testBit t = true ∧ t ≠ a := by
  have hb := low_bit (sd_lt (b := 2 ^ a) hS) h
  obtain ⟨h1, h2⟩ := (sd_t hS).mp hb
  exact ⟨_, bit_lt10 hS h1, h1, fun g => by rw [g, pow_t.mpr rfl] at h2; cases h2⟩
theorem pow_rest : ∀ b, b < 10 → ¬ 2 ^ b = 0 ∧ 2 ^ b &&& (2 ^ b - 1) = 0 := by decide
theorem sd_zero_eq {S a : Nat} (hS : S < 1024) (ha : S.testBit a = true) (h : sd S (2 ^ a) = 0) : S = 2 ^ a := by
  refine eq_of_bits (fun b => ?_)
  rw [pow_t]
  constructor
  · intro hb
    refine Classical.byContradiction (fun hne => ?_)
    have : (sd S (2 ^ a)).testBit b = true := (sd_t hS).mpr ⟨hb, Bool.eq_false_iff.mpr (fun g => hne (pow_t.mp g))⟩
    rw [h] at this; simp at this
  · intro hb; rw [hb]; exact ha
theorem wS_one {α : Type} [Lean.Grind.CommRing α] {w : Nat → Nat → α} {r a : Nat} (ha : a < 10) : wS w r (2 ^ a) = w r a := by
  unfold wS
  rw [Sg_one (l := a) 10 ha (fun b _ hne => if_neg (fun g => hne (pow_t.mp g))), if_pos (pow_t.mpr rfl)]
/-- a star: one ray taken off -/
theorem star_ray {α : Type} [Lean.Grind.CommRing α] {w : Nat → Nat → α} (hw : ∀ u v, w u v = w v u) {S k a : Nat} (hS : S < 1024) (hk : k < 10) (ha : a < 10) (hSk : S.testBit k = true) (hSa : S.testBit a = true) (hka : k ≠ a) (hz : ∀ i j, S.testBit i = true → S.testBit j = true → i ≠ k → j ≠ k → i ≠ j → w i j = 0) : tau w S = w k a * tau w (sd S (2 ^ a)) := by
  rw [tau_any hw S hS k a hk ha hSk hSa hka]
  unfold TRn Su
  rw [Sg_one (l := 2 ^ a) 1024 (pow_lt ha) (fun B hB hne => ?_)]
  · rw [if_pos (sub_t.mpr (fun b hb => by rw [pow_t.mp hb]; exact hSa))]
    try dsimp only
    rw [if_pos ⟨pow_t.mpr rfl, Bool.eq_false_iff.mpr (fun g => hka (pow_t.mp g))⟩, wS_one ha, tau_one (pow_rest a ha).1 (pow_rest a ha).2]
    grind
  · by_cases e : B &&& S = B
    · rw [if_pos e]
      try dsimp only
      by_cases c : B.testBit a = true ∧ B.testBit k = false
      · have hne2 : ¬ sd B (2 ^ a) = 0 := fun g => hne (sd_zero_eq hB c.1 g)
        obtain ⟨t, t1, t2, t3⟩ := two_of hB c.1 hne2
        have hBS := sub_t.mp e
        rw [if_pos c, tau_iso hw hB ha t1 c.1 t2 (fun g => t3 g.symm) (fun b hb hba => hz a b hSa (hBS b hb) (fun g => hka g.symm) (fun g => by rw [g, c.2] at hb; cases hb) (fun g => hba g.symm))]
        grind
      · rw [if_neg c]
    · rw [if_neg e]
theorem qf1 {D x y xi xj Da : Rat} (hD : D = x + y) (hD0 : ¬ D = 0) (hx : ¬ x = 0) (hy : ¬ y = 0) (hDa : Da = x * y / D) : 0 + xi * xj / D + (0 + x * xi / D) * (0 + x * xj / D) / Da = 0 + xi * xj / y := by
  have h1 : ¬ Da = 0 := by
    rw [hDa]
    intro h
    have : x * y = 0 := by grind
    rcases Rat.mul_eq_zero.mp this with g | g
    · exact hx g
    · exact hy g
  grind
