/-! star and mesh, with any edges beside -/
def w0 (w : Nat → Nat → Rat) (i j : Nat) : Nat → Nat → Rat := fun u v => if (u = i ∧ v = j) ∨ (u = j ∧ v = i) then 0 else w u v
theorem w0_sym {w : Nat → Nat → Rat} (hw : ∀ u v, w u v = w v u) (i j : Nat) : ∀ u v, w0 w i j u v = w0 w i j v u := by
  intro u v
  unfold w0
  by_cases c : (u = i ∧ v = j) ∨ (u = j ∧ v = i)
  · rw [if_pos c, if_pos (c.symm.imp And.symm And.symm)]
  · rw [if_neg c, if_neg (fun g => c (g.symm.imp And.symm And.symm)), hw]
theorem w0_nn {w : Nat → Nat → Rat} (hw : ∀ u v, 0 ≤ w u v) (i j : Nat) : ∀ u v, 0 ≤ w0 w i j u v := by
  intro u v
  unfold w0
  split
  · exact Rat.le_refl
  · exact hw u v
theorem cont_nn {w : Nat → Nat → Rat} (hw : ∀ u v, 0 ≤ w u v) (i j : Nat) : ∀ u v, 0 ≤ cont w i j u v := by
  intro u v
  unfold cont
  split
  · split
    · exact Rat.le_refl
    · exact q_add (hw _ _) (hw _ _)
  · split
    · exact q_add (hw _ _) (hw _ _)
    · exact hw _ _
theorem wS_cont2 {α : Type} [Lean.Grind.CommRing α] {w : Nat → Nat → α} {k i j U : Nat} (hU : U < 1024) (hi : i < 10) (hj : j < 10) (hUi : U.testBit i = true) (hUj : U.testBit j = true) (hij : i ≠ j) (hki : k ≠ i) : wS (cont w i j) k (sd U (2 ^ j)) = wS w k U := by
  have hb : (sd U (2 ^ j)).testBit i = true := (sd_t hU).mpr ⟨hUi, Bool.eq_false_iff.mpr (fun g => hij (pow_t.mp g))⟩
  rw [wS_split (w := w) hU hj hUj, wS_split (w := w) (sd_lt hU) hi hb, wS_split (w := cont w i j) (sd_lt hU) hi hb]
  have e1 : wS (cont w i j) k (sd (sd U (2 ^ j)) (2 ^ i)) = wS w k (sd (sd U (2 ^ j)) (2 ^ i)) := Sg_congr 10 (fun b _ => by
    cases hbb : (sd (sd U (2 ^ j)) (2 ^ i)).testBit b with
    | false => rfl
    | true =>
      have h2 := ((sd_t (sd_lt hU)).mp hbb).2
      rw [if_pos rfl, if_pos rfl]
      unfold cont
      rw [if_neg hki, if_neg (fun g => by rw [g, pow_t.mpr rfl] at h2; cases h2)])
  have e2 : cont w i j k i = w k i + w k j := by unfold cont; rw [if_neg hki, if_pos rfl]
  rw [e1, e2]
  grind
theorem qf3 (a b c d e x : Rat) (h1 : a = x * b) (h2 : c = x * d) : a + e * c = x * (b + e * d) := by rw [h1, h2]; grind
theorem qf4 (a b c d e D : Rat) : a + c * e / D + (b + d * e / D) = a + b + (c + d) * e / D := by grind
theorem qf5 (a b c d e D : Rat) : a + e * c / D + (b + e * d / D) = a + b + e * (c + d) / D := by grind
theorem star_all : ∀ S, S < 1024 → ∀ (w : Nat → Nat → Rat), (∀ u v, w u v = w v u) → (∀ u v, 0 ≤ w u v) → ∀ k, k < 10 → S.testBit k = true → ¬ sd S (2 ^ k) = 0 → ¬ wS w k (sd S (2 ^ k)) = 0 → star w S k := by
  intro S
  refine wh_ind (P := fun S => S < 1024 → ∀ (w : Nat → Nat → Rat), (∀ u v, w u v = w v u) → (∀ u v, 0 ≤ w u v) → ∀ k, k < 10 → S.testBit k = true → ¬ sd S (2 ^ k) = 0 → ¬ wS w k (sd S (2 ^ k)) = 0 → star w S k) (fun S => S) (fun S ih hS w hw hnn k hk hSk hU0 hD0 => ?_) S
  have ih' : ∀ V, V < S → ∀ (w : Nat → Nat → Rat), (∀ u v, w u v = w v u) → (∀ u v, 0 ≤ w u v) → ∀ k, k < 10 → V.testBit k = true → ¬ sd V (2 ^ k) = 0 → ¬ wS w k (sd V (2 ^ k)) = 0 → star w V k := fun V hV => ih V hV (by omega)
  have hU : sd S (2 ^ k) < 1024 := sd_lt hS
  have hkU : (sd S (2 ^ k)).testBit k = false := by rw [sd_bit _ _ _ hS, pow_t.mpr rfl]; simp
  -- edge after edge
  suffices h : ∀ m, ∀ (w : Nat → Nat → Rat), (∀ u v, w u v = w v u) → (∀ u v, 0 ≤ w u v) → ¬ wS w k (sd S (2 ^ k)) = 0 → (∀ i j, (sd S (2 ^ k)).testBit i = true → (sd S (2 ^ k)).testBit j = true → i < j → m ≤ 10 * i + j → w i j = 0) → star w S k by
    refine h 200 w hw hnn hD0 (fun i j hi hj _ hm => ?_)
    have h1 := bit_lt10 hU hi
    have h2 := bit_lt10 hU hj
    omega
  intro m
  induction m with
  | zero =>
    intro w hw hnn hD0 hc
    refine star_base hw hnn hS hk hSk hU0 hD0 ih' (fun i j hi hj hij => ?_)
    rcases Nat.lt_or_gt_of_ne hij with g | g
    · exact hc i j hi hj g (Nat.zero_le _)
    · rw [hw]; exact hc j i hj hi g (Nat.zero_le _)
  | succ m ihm =>
    intro w hw hnn hD0 hc
    by_cases hp : ∃ i j, (sd S (2 ^ k)).testBit i = true ∧ (sd S (2 ^ k)).testBit j = true ∧ i < j ∧ m = 10 * i + j
    · obtain ⟨i, j, hUi, hUj, hlt, hm⟩ := hp
      have hi := bit_lt10 hU hUi
      have hj := bit_lt10 hU hUj
      have hij : i ≠ j := by omega
      have hSi := ((sd_t hS).mp hUi).1
      have hSj := ((sd_t hS).mp hUj).1
      have hki : k ≠ i := fun g => by rw [← g, hkU] at hUi; cases hUi
      have hkj : k ≠ j := fun g => by rw [← g, hkU] at hUj; cases hUj
      have hs1 := w0_sym hw i j
      have hn1 := w0_nn hnn i j
      have hk1 : ∀ b, w0 w i j k b = w k b := fun b => by
        unfold w0
        rw [if_neg (fun g => by
          rcases g with ⟨g, _⟩ | ⟨g, _⟩
          · exact hki g
          · exact hkj g)]
      have hD1 : wS (w0 w i j) k (sd S (2 ^ k)) = wS w k (sd S (2 ^ k)) := Sg_congr 10 (fun b _ => by rw [hk1])
      have hij0 : w0 w i j i j = 0 := by unfold w0; rw [if_pos (Or.inl ⟨rfl, rfl⟩)]
      have hrest : ∀ u v, ¬ ((u = i ∧ v = j) ∨ (u = j ∧ v = i)) → w u v = w0 w i j u v := fun u v g => by unfold w0; rw [if_neg g]
      -- without the edge
      have i1 := ihm (w0 w i j) hs1 hn1 (by rw [hD1]; exact hD0) (fun a b ha hb hab hle => by
        by_cases e : a = i ∧ b = j
        · rw [e.1, e.2]; exact hij0
        · rw [← hrest a b (fun g => by
            rcases g with g | g
            · exact e g
            · omega)]
          refine hc a b ha hb hab ?_
          have h1 := bit_lt10 hU ha
          have h2 := bit_lt10 hU hb
          have h3 : 10 * a + b ≠ m := fun g => e (by omega)
          omega)
      unfold star at i1 ⊢
      rw [hD1] at i1
      -- with its ends made one
      have hjk : (sd S (2 ^ j)).testBit k = true := (sd_t hS).mpr ⟨hSk, Bool.eq_false_iff.mpr (fun g => hkj (pow_t.mp g))⟩
      have hUji : (sd (sd S (2 ^ k)) (2 ^ j)).testBit i = true := (sd_t hU).mpr ⟨hUi, Bool.eq_false_iff.mpr (fun g => hij (pow_t.mp g))⟩
      have hD2 : wS (cont (w0 w i j) i j) k (sd (sd S (2 ^ j)) (2 ^ k)) = wS w k (sd S (2 ^ k)) := by rw [sd_comm hS, wS_cont2 hU hi hj hUi hUj hij hki, hD1]
      have i2 := ih' (sd S (2 ^ j)) (sd_one_lt hS hSj) (cont (w0 w i j) i j) (cont_sym hs1 i j) (cont_nn hn1 i j) k hk hjk (by rw [sd_comm hS]; intro g; rw [g] at hUji; simp at hUji) (by rw [hD2]; exact hD0)
      unfold star at i2
      rw [hD2, sd_comm hS] at i2
      generalize hDD : wS w k (sd S (2 ^ k)) = D at hD0 i1 i2 ⊢
      have hDn : 0 ≤ D := by rw [← hDD]; exact wS_nn hnn k _
      rw [tau_edge hw hs1 hS hi hj hSi hSj hij (fun u v _ _ _ g => hrest u v g), K_cont hs1 hi hj hij S hS hSi hSj, hij0]
      rw [tau_edge (mesh_sym hw k D) (mesh_sym hs1 k D) hU hi hj hUi hUj hij (fun u v _ _ _ g => by unfold mesh; rw [hk1, hk1, hrest u v g]), K_cont (mesh_sym hs1 k D) hi hj hij _ hU hUi hUj]
      have hcg : tau (cont (mesh (w0 w i j) k D) i j) (sd (sd S (2 ^ k)) (2 ^ j)) = tau (mesh (cont (w0 w i j) i j) k D) (sd (sd S (2 ^ k)) (2 ^ j)) := by
        refine tau_congr _ (sd_lt hU) (fun u v hu hv huv => ?_)
        unfold cont mesh
        try dsimp only
        simp only [if_neg hki]
        by_cases c1 : u = i
        · have c2 : ¬ v = i := fun g => huv (c1.trans g.symm)
          simp only [if_pos c1, if_neg c2]
          exact qf4 _ _ _ _ _ _
        · by_cases c2 : v = i
          · simp only [if_neg c1, if_pos c2]
            exact qf5 _ _ _ _ _ _
          · simp only [if_neg c1, if_neg c2]
      rw [hcg]
      have hme : mesh w k D i j - mesh (w0 w i j) k D i j = w i j := by
        unfold mesh
        rw [hk1, hk1, hij0]
        grind
      rw [hme]
      have hsub : w i j - 0 = w i j := by grind
      rw [hsub]
      exact qf3 _ _ _ _ _ _ i1 i2
    · refine ihm w hw hnn hD0 (fun i j hi hj hij hle => ?_)
      by_cases e : m = 10 * i + j
      · exact absurd ⟨i, j, hi, hj, hij, e⟩ hp
      · exact hc i j hi hj hij (by omega)
