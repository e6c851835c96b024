/-! star and mesh -/
def star (w : Nat → Nat → Rat) (S k : Nat) : Prop := tau w S = wS w k (sd S (2 ^ k)) * tau (mesh w k (wS w k (sd S (2 ^ k)))) (sd S (2 ^ k))
theorem qf2 {D x y t u : Rat} (hD : D = x + y) (hD0 : ¬ D = 0) : D * (x * y / D * u) = x * (y * u) := by grind
theorem star_base {w : Nat → Nat → Rat} (hw : ∀ u v, w u v = w v u) (hnn : ∀ u v, 0 ≤ w u v) {S k : Nat} (hS : S < 1024) (hk : k < 10) (hSk : S.testBit k = true) (hU0 : ¬ sd S (2 ^ k) = 0) (hD0 : ¬ wS w k (sd S (2 ^ k)) = 0) (ih : ∀ V, V < S → ∀ (w : Nat → Nat → Rat), (∀ u v, w u v = w v u) → (∀ u v, 0 ≤ w u v) → ∀ k, k < 10 → V.testBit k = true → ¬ sd V (2 ^ k) = 0 → ¬ wS w k (sd V (2 ^ k)) = 0 → star w V k) (hz : ∀ i j, (sd S (2 ^ k)).testBit i = true → (sd S (2 ^ k)).testBit j = true → i ≠ j → w i j = 0) : star w S k := by
  unfold star
  have hU : sd S (2 ^ k) < 1024 := sd_lt hS
  have hz2 : ∀ i j, S.testBit i = true → S.testBit j = true → i ≠ k → j ≠ k → i ≠ j → w i j = 0 := fun i j h1 h2 h3 h4 h5 => hz i j ((sd_t hS).mpr ⟨h1, Bool.eq_false_iff.mpr (fun g => h3 (pow_t.mp g))⟩) ((sd_t hS).mpr ⟨h2, Bool.eq_false_iff.mpr (fun g => h4 (pow_t.mp g))⟩) h5
  have hDn := wS_nn hnn k (sd S (2 ^ k))
  have hkU : (sd S (2 ^ k)).testBit k = false := by rw [sd_bit _ _ _ hS, pow_t.mpr rfl]; simp
  by_cases hone : ∃ b, (sd S (2 ^ k)).testBit b = true ∧ w k b = 0
  · -- a ray of no weight
    obtain ⟨b, hb, hwb⟩ := hone
    have hSb := ((sd_t hS).mp hb).1
    have hkb : k ≠ b := fun g => by rw [← g, hkU] at hb; cases hb
    have hb10 := bit_lt10 hS hSb
    rw [star_ray hw hS hk hb10 hSk hSb hkb hz2, hwb]
    have hne : ¬ sd (sd S (2 ^ k)) (2 ^ b) = 0 := fun g => by
      have h1 := sd_zero_eq hU hb g
      rw [h1, wS_one hb10, hwb] at hD0
      exact hD0 rfl
    obtain ⟨t, t1, t2, t3⟩ := two_of hU hb hne
    rw [tau_iso (mesh_sym hw k _) hU hb10 t1 hb t2 (fun g => t3 g.symm) (fun c hc hcb => by
      unfold mesh
      rw [hz b c hb hc (fun g => hcb g.symm), hwb]
      grind)]
    grind
  · have hpos : ∀ b, (sd S (2 ^ k)).testBit b = true → ¬ w k b = 0 := fun b hb g => hone ⟨b, hb, g⟩
    have hab := low_bit hU hU0
    have ha10 := low_lt hU hU0
    generalize ha : low (sd S (2 ^ k)) = a at hab ha10
    have hSa := ((sd_t hS).mp hab).1
    have hka : k ≠ a := fun g => by rw [← g, hkU] at hab; cases hab
    rw [star_ray hw hS hk ha10 hSk hSa hka hz2]
    have hsp := wS_split (w := w) (r := k) hU ha10 hab
    by_cases hUa : sd (sd S (2 ^ k)) (2 ^ a) = 0
    · -- one ray alone
      have hUe := sd_zero_eq hU hab hUa
      have hSe : sd S (2 ^ a) = 2 ^ k := by
        refine eq_of_bits (fun b => ?_)
        rw [sd_t hS, pow_t]
        constructor
        · rintro ⟨h1, h2⟩
          refine Classical.byContradiction (fun hne => ?_)
          have : (sd S (2 ^ k)).testBit b = true := (sd_t hS).mpr ⟨h1, Bool.eq_false_iff.mpr (fun g => hne (pow_t.mp g))⟩
          rw [hUe] at this
          rw [this] at h2; cases h2
        · intro h; rw [h]; exact ⟨hSk, Bool.eq_false_iff.mpr (fun g => hka (pow_t.mp g))⟩
      rw [hSe, hUe, wS_one ha10, tau_one (pow_rest k hk).1 (pow_rest k hk).2, tau_one (pow_rest a ha10).1 (pow_rest a ha10).2]
    · have hy0 : ¬ wS w k (sd (sd S (2 ^ k)) (2 ^ a)) = 0 := fun g => by
        have h1 := low_bit (sd_lt (b := 2 ^ a) hU) hUa
        exact hpos _ ((sd_t hU).mp h1).1 (wS_zero hnn (sd_lt hU) g _ h1)
      have hx0 := hpos a hab
      -- take k out of what is left without a
      have hSka : (sd S (2 ^ a)).testBit k = true := (sd_t hS).mpr ⟨hSk, Bool.eq_false_iff.mpr (fun g => hka (pow_t.mp g))⟩
      have i2 := ih (sd S (2 ^ a)) (sd_one_lt hS hSa) w hw hnn k hk hSka (by rw [sd_comm hS]; exact hUa) (by rw [sd_comm hS]; exact hy0)
      unfold star at i2
      rw [sd_comm hS] at i2
      -- take a out of the mesh
      have hDa : wS (mesh w k (wS w k (sd S (2 ^ k)))) a (sd (sd S (2 ^ k)) (2 ^ a)) = w k a * wS w k (sd (sd S (2 ^ k)) (2 ^ a)) / wS w k (sd S (2 ^ k)) := by
        generalize wS w k (sd S (2 ^ k)) = D at hD0
        have e1 : wS (mesh w k D) a (sd (sd S (2 ^ k)) (2 ^ a)) = Sg (fun b => (w k a / D) * (if (sd (sd S (2 ^ k)) (2 ^ a)).testBit b = true then w k b else 0)) 10 := by
          refine Sg_congr 10 (fun b _ => ?_)
          try dsimp only
          cases hb : (sd (sd S (2 ^ k)) (2 ^ a)).testBit b with
          | false => rw [if_neg (by decide), if_neg (by decide)]; grind
          | true =>
            obtain ⟨h1, h2⟩ := (sd_t hU).mp hb
            rw [if_pos rfl, if_pos rfl]
            unfold mesh
            rw [hz a b hab h1 (fun g => by rw [← g, pow_t.mpr rfl] at h2; cases h2)]
            grind
        rw [e1, Sg_mul]
        show w k a / D * wS w k (sd (sd S (2 ^ k)) (2 ^ a)) = _
        grind
      have hDa0 : ¬ wS (mesh w k (wS w k (sd S (2 ^ k)))) a (sd (sd S (2 ^ k)) (2 ^ a)) = 0 := by
        rw [hDa]
        intro h
        have : w k a * wS w k (sd (sd S (2 ^ k)) (2 ^ a)) = 0 := by grind
        rcases Rat.mul_eq_zero.mp this with g | g
        · exact hx0 g
        · exact hy0 g
      have i1 := ih (sd S (2 ^ k)) (sd_one_lt hS hSk) (mesh w k (wS w k (sd S (2 ^ k)))) (mesh_sym hw k _) (mesh_nn hnn k hDn) a ha10 hab hUa hDa0
      unfold star at i1
      have hcg : tau (mesh (mesh w k (wS w k (sd S (2 ^ k)))) a (wS (mesh w k (wS w k (sd S (2 ^ k)))) a (sd (sd S (2 ^ k)) (2 ^ a)))) (sd (sd S (2 ^ k)) (2 ^ a)) = tau (mesh w k (wS w k (sd (sd S (2 ^ k)) (2 ^ a)))) (sd (sd S (2 ^ k)) (2 ^ a)) := by
        refine tau_congr _ (sd_lt hU) (fun u v hu hv huv => ?_)
        obtain ⟨hu1, hu2⟩ := (sd_t hU).mp hu
        obtain ⟨hv1, hv2⟩ := (sd_t hU).mp hv
        have hua : a ≠ u := fun g => by rw [← g, pow_t.mpr rfl] at hu2; cases hu2
        have hva : a ≠ v := fun g => by rw [← g, pow_t.mpr rfl] at hv2; cases hv2
        show (w u v + w k u * w k v / _) + (w a u + w k a * w k u / _) * (w a v + w k a * w k v / _) / _ = w u v + w k u * w k v / _
        rw [hz u v hu1 hv1 huv, hz a u hab hu1 hua, hz a v hab hv1 hva]
        exact qf1 hsp hD0 hx0 hy0 hDa
      rw [i2, i1, hcg, hDa]
      exact (qf2 (t := 0) hsp hD0).symm
