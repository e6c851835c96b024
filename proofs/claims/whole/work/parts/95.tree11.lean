/-! the elimination in longs -/
theorem qf7 (p L1 D L2 L3 : Rat) (hD : ¬ D = 0) : p * L1 * (p * D) - p * L2 * (p * L3) = p * D * (L1 - L2 * L3 / D) * p := by grind
theorem ofInt_ne {z : Int} (hz : z.natAbs ≤ 400000000) (h : z ≠ 0) : ¬ Int64.ofInt z = 0 := by
  intro g
  have h1 : (Int64.ofInt z).toInt = z := Int64.toInt_ofInt_of_le (by omega) (by omega)
  rw [g] at h1
  exact h h1.symm
theorem bareiss {v : Nat → Nat} {w : Nat → Nat → Rat} {S m l : Nat} (hm : m ≤ 9) (hS : S < 1024) (hw : ∀ a b, w a b = w b a) (hnn : ∀ a b, 0 ≤ w a b) (hv : ∀ j, j < m → S.testBit (v j) = true) (hinj : ∀ i j, i < m → j < m → v i = v j → i = j) (h9 : ∀ u, S.testBit u = true → wS w u (sd S (2 ^ u)) ≤ 9) (hl : S.testBit l = true) (hlv : ∀ j, j < m → l ≠ v j) (hcov : ∀ i, S.testBit i = true → i = l ∨ ∃ j, j < m ∧ i = v j) {Z : Nat → Nat → Int} (hZ : ∀ a c, a < m → c < m → sqK v w S 0 a c = ((Z a c : Int) : Rat)) : ∀ (j k : Nat) (f : Nat → Int64) (b : Int64), k + j = m → (∀ i, i < k → ¬ pvK v w S i = 0) → (∀ a c, k ≤ a → a < m → k ≤ c → c < m → ∃ z : Int, f (10 * a + c) = Int64.ofInt z ∧ (z : Rat) = prK v w S k * sqK v w S k (a - k) (c - k)) → (∃ zb : Int, b = Int64.ofInt zb ∧ (zb : Rat) = prK v w S k) → ∃ t : Int, (treeE m j k f b).1 = Int64.ofInt t ∧ (t : Rat) = tau w S := by
  have hl10 := bit_lt10 hS hl
  intro j
  induction j with
  | zero =>
    intro k f b hk hp hf hb
    obtain ⟨zb, b1, b2⟩ := hb
    refine ⟨zb, b1, ?_⟩
    have hkm : k = m := by omega
    subst hkm
    rw [tau_out hS hw hnn hv hinj hl hlv k (Nat.le_refl _) hp, b2]
    obtain ⟨h1, h2⟩ := out_set (v := v) (w := w) hS k
    have hone : (outK v w S k).2 = 2 ^ l := by
      refine eq_of_bits (fun i => ?_)
      rw [h2, pow_t]
      constructor
      · rintro ⟨a, c⟩
        rcases hcov i a with g | ⟨j, hj, g⟩
        · exact g
        · exact absurd g (c j hj)
      · intro g; rw [g]; exact ⟨hl, fun j hj => hlv j hj⟩
    rw [hone, tau_one (pow_rest l hl10).1 (pow_rest l hl10).2]
    grind
  | succ j ih =>
    intro k f b hk hp hf hb
    have hkm : k < m := by omega
    obtain ⟨v1, v2, v3, v4⟩ := piv_all (f := f) (k := k) (m := m) (by omega)
    obtain ⟨h1, h2⟩ := out_set (v := v) (w := w) hS k
    have hin : ∀ j, k ≤ j → j < m → (outK v w S k).2.testBit (v j) = true := fun j hj hjm => (h2 _).mpr ⟨hv j hjm, fun i hi g => by have := hinj j i hjm (by omega) g; omega⟩
    obtain ⟨zk, zk1, zk2⟩ := hf k k (Nat.le_refl _) hkm (Nat.le_refl _) hkm
    rw [Nat.sub_self, sq_00] at zk2
    obtain ⟨zb, b1, b2⟩ := hb
    have hpr := pr_bd hS hw hnn hv hinj h9 k (by omega) hp
    by_cases hD : pvK v w S k = 0
    · -- nothing to go on with
      have hcol : ∀ r, k ≤ r → r < m → f (10 * r + k) = 0 := by
        intro r hr hrm
        obtain ⟨z, z1, z2⟩ := hf r k hr hrm (Nat.le_refl _) hkm
        have hz0 : sqK v w S k (r - k) (k - k) = 0 := by
          rw [Nat.sub_self]
          by_cases e : r = k
          · rw [e, Nat.sub_self, sq_00]; exact hD
          · unfold sqK Lap
            rw [Nat.add_zero, show k + (r - k) = r by omega, if_neg (fun g => e (hinj r k hrm hkm g))]
            have hx : (sd (outK v w S k).2 (2 ^ v k)).testBit (v r) = true := (sd_t h1).mpr ⟨hin r hr hrm, Bool.eq_false_iff.mpr (fun g => e (hinj r k hrm hkm (pow_t.mp g)))⟩
            have := wS_zero (out_nn (v := v) (S := S) hnn k) (sd_lt h1) hD (v r) hx
            rw [out_sym hw k, this]
            grind
        rw [hz0] at z2
        have hz : z = 0 := by
          have : (z : Rat) = ((0 : Int) : Rat) := by rw [z2]; show _ = (0 : Rat); grind
          exact Rat.intCast_inj.mp this
        rw [z1, hz]; rfl
      have hpm : pivN f k m = m := by
        rcases Nat.lt_or_ge (pivN f k m) m with g | g
        · exact absurd (hcol _ v2 g) (v3 g)
        · omega
      refine ⟨0, ?_, ?_⟩
      · show (if pivN f k m = m then ((0 : Int64), f) else _).1 = _
        rw [if_pos hpm]; rfl
      · rw [tau_out hS hw hnn hv hinj hl hlv k (by omega) hp]
        have hlin : (outK v w S k).2.testBit l = true := (h2 _).mpr ⟨hl, fun j hj => hlv j (by omega)⟩
        rw [tau_iso (out_sym hw k) h1 (bit_lt10 hS (hv k hkm)) hl10 (hin k (Nat.le_refl _) hkm) hlin (fun g => hlv k hkm g.symm) (fun c hc hck => ?_)]
        · show (0 : Rat) = _; grind
        · exact wS_zero (out_nn (v := v) (S := S) hnn k) (sd_lt h1) hD c ((sd_t h1).mpr ⟨hc, Bool.eq_false_iff.mpr (fun g => hck (pow_t.mp g))⟩)
    · -- one step
      have hzk : zk ≠ 0 := fun g => by
        rw [g] at zk2
        have h3 : prK v w S k * pvK v w S k = 0 := zk2.symm
        rcases Rat.mul_eq_zero.mp h3 with g2 | g2
        · have := hpr.1; grind
        · exact hD g2
      have hzkb := ent_bd (r := 0) (c := 0) hm hS hw hnn hv hinj h9 hkm hp hkm hkm (z := zk) (by rw [sq_00]; exact zk2)
      have hfk : ¬ f (10 * k + k) = 0 := by rw [zk1]; exact ofInt_ne hzkb hzk
      have hpk : pivN f k m = k := by
        rcases Nat.lt_or_ge k (pivN f k m) with g | g
        · exact absurd (v4 k (Nat.le_refl _) g) hfk
        · omega
      have hput : putN f k m = f := by unfold putN; rw [if_pos hpk]
      have hte : treeE m (j + 1) k f b = treeE m j (k + 1) (elmN k m b f) (elmN k m b f (10 * k + k)) := by
        show (if pivN f k m = m then _ else treeE m j (k + 1) (elmN k m b (putN f k m)) (elmN k m b (putN f k m) (10 * k + k))) = _
        rw [if_neg (by omega), hput]
      rw [hte]
      have hp' : ∀ i, i < k + 1 → ¬ pvK v w S i = 0 := fun i hi => by
        by_cases e : i = k
        · rw [e]; exact hD
        · exact hp i (by omega)
      have hzb0 : zb ≠ 0 := fun g => by
        rw [g] at b2
        have h3 : (0 : Rat) = prK v w S k := b2
        have := hpr.1
        grind
      have hzbb : zb.natAbs ≤ 400000000 := by
        have h5 := (pow9 k (by omega)).1
        exact int_bd b2 (Rat.le_trans hpr.2 h5) (by have := hpr.1; grind)
      refine ih (k + 1) (elmN k m b f) (elmN k m b f (10 * k + k)) (by omega) hp' (fun a c ha ham hc hcm => ?_) ⟨zk, by rw [elm_row hm (by omega)]; exact zk1, zk2⟩
      -- the new entry
      obtain ⟨x, x1, x2⟩ := hf a c (by omega) ham (by omega) hcm
      obtain ⟨y, y1, y2⟩ := hf a k (by omega) ham (Nat.le_refl _) hkm
      obtain ⟨u, u1, u2⟩ := hf k c (Nat.le_refl _) hkm (by omega) hcm
      rw [Nat.sub_self] at y2 u2
      have hmin := minor_eq hS hw hv hinj (k + 1) 0 (a - (k + 1)) (c - (k + 1)) (by omega) (by omega) (fun i hi => hp' i (by omega))
      rw [Nat.zero_add] at hmin
      have hdet : detG (k + 1 + 1) (brd (sqK v w S 0) (k + 1) (a - (k + 1)) (c - (k + 1))) = ((detG (k + 1 + 1) (fun i j => Z (if i < k + 1 then i else k + 1 + (a - (k + 1))) (if j < k + 1 then j else k + 1 + (c - (k + 1)))) : Int) : Rat) := by
        rw [← det_cast]
        refine det_cong _ _ _ (fun i j hi hj => ?_)
        unfold brd
        exact hZ _ _ (by split <;> omega) (by split <;> omega)
      generalize detG (k + 1 + 1) (fun i j => Z (if i < k + 1 then i else k + 1 + (a - (k + 1))) (if j < k + 1 then j else k + 1 + (c - (k + 1)))) = z at hdet
      have hzq : (z : Rat) = prK v w S (k + 1) * sqK v w S (k + 1) (a - (k + 1)) (c - (k + 1)) := by
        rw [← hmin, hdet]
        show _ = (1 : Rat) * _
        grind
      refine ⟨z, ?_, hzq⟩
      rw [elm_at hm hkm ha ham hc hcm, x1, zk1, y1, u1, b1]
      have bx := ent_bd hm hS hw hnn hv hinj h9 hkm hp (r := a - k) (c := c - k) (by omega) (by omega) x2
      have by' := ent_bd hm hS hw hnn hv hinj h9 hkm hp (r := a - k) (c := 0) (by omega) (by omega) y2
      have bu := ent_bd hm hS hw hnn hv hinj h9 hkm hp (r := 0) (c := c - k) (by omega) (by omega) u2
      have bz := ent_bd hm hS hw hnn hv hinj h9 (show k + 1 < m by omega) hp' (r := a - (k + 1)) (c := c - (k + 1)) (by omega) (by omega) hzq
      refine div64 bx hzkb by' bu bz hzbb hzb0 ?_
      have hsch := sq_schur hS hw hv hinj hD (r := a - (k + 1)) (c := c - (k + 1)) (by omega) (by omega)
      have hcast : ((x * zk - y * u : Int) : Rat) = ((z * zb : Int) : Rat) := by
        rw [Rat.intCast_sub, Rat.intCast_mul, Rat.intCast_mul, Rat.intCast_mul, hzq, b2, x2, zk2, y2, u2, hsch]
        unfold schur
        rw [show a - (k + 1) + 1 = a - k by omega, show c - (k + 1) + 1 = c - k by omega, sq_00]
        exact qf7 _ _ _ _ _ hD
      exact Rat.intCast_inj.mp hcast
