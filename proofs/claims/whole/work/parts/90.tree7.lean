/-! the class's trees -/
theorem rg22 (a : Int64) : 0 * a = 0 := by grind
theorem rg23 (a b c d : Int64) : a + b * c * d = a + b * (c * d) := by grind
theorem tau_sep {α : Type} [Lean.Grind.CommRing α] {w : Nat → Nat → α} (hw : ∀ u v, w u v = w v u) {H : Nat} : ∀ S, S < 1024 → (∃ r, S.testBit r = true ∧ H.testBit r = true) → (∃ t, S.testBit t = true ∧ H.testBit t = false) → (∀ u v, S.testBit u = true → S.testBit v = true → H.testBit u = true → H.testBit v = false → w u v = 0) → tau w S = 0 := by
  intro S
  refine wh_ind (P := fun S => S < 1024 → (∃ r, S.testBit r = true ∧ H.testBit r = true) → (∃ t, S.testBit t = true ∧ H.testBit t = false) → (∀ u v, S.testBit u = true → S.testBit v = true → H.testBit u = true → H.testBit v = false → w u v = 0) → tau w S = 0) (fun S => S) (fun S ih hS hr ht hz => ?_) S
  obtain ⟨r, r1, r2⟩ := hr
  obtain ⟨t, t1, t2⟩ := ht
  have hrt : r ≠ t := fun g => by rw [g, t2] at r2; cases r2
  rw [tau_any hw S hS r t (bit_lt10 hS r1) (bit_lt10 hS t1) r1 t1 hrt]
  unfold TRn
  rw [Su_congr (g := fun _ => 0) (fun B hB e => ?_), Su_0]
  by_cases c : B.testBit t = true ∧ B.testBit r = false
  · have hBS := sub_t.mp e
    rw [if_pos c]
    by_cases hBH : ∃ b, B.testBit b = true ∧ H.testBit b = true
    · have hle : B ≤ S := subS_le hBS
      have hne : B ≠ S := fun g => by rw [g, r1] at c; exact absurd c.2 (by decide)
      rw [ih B (by omega) hB hBH ⟨t, c.1, t2⟩ (fun u v hu hv => hz u v (hBS u hu) (hBS v hv))]
      grind
    · have h1 : wS w r B = 0 := by
        unfold wS
        rw [Sg_congr 10 (g := fun _ => 0) (fun b _ => ?_), Sg_0]
        cases hb : B.testBit b with
        | false => rfl
        | true =>
          rw [if_pos rfl]
          refine hz r b r1 (hBS b hb) r2 (Bool.eq_false_iff.mpr (fun g => hBH ⟨b, hb, g⟩))
      rw [h1]; grind
  · rw [if_neg c]
def ad64 (nb : Nat → Nat) (u v : Nat) : Int64 := if u < 10 ∧ v < 10 ∧ (nb u).testBit v = true then 1 else 0
theorem ofNat_Sm {f : Nat → Nat} : ∀ m, Int64.ofNat (Sm f m) = Sg (fun k => Int64.ofNat (f k)) m
  | 0 => rfl
  | m + 1 => by rw [Sm_s, Sg_s, Int64.ofNat_add, ofNat_Sm m]
section GG
variable {n : Nat} {nb : Nat → Nat}
theorem ad64_sym (G : GR n nb) : ∀ u v, ad64 nb u v = ad64 nb v u := by
  intro u v
  unfold ad64
  by_cases c : u < 10 ∧ v < 10 ∧ (nb u).testBit v = true
  · rw [if_pos c, if_pos ⟨c.2.1, c.1, adj10 G c.1 c.2.2⟩]
  · rw [if_neg c, if_neg (fun g => c ⟨g.2.1, g.1, adj10 G g.1 g.2.2⟩)]
theorem pop_wS {r B : Nat} (hr : r < 10) (hB : B < 1024) : (nI (pop (nb r &&& B))).toInt64 = wS (ad64 nb) r B := by
  have h1 : ∀ k, k ≤ 10 → (nI k).toInt64 = Int64.ofNat k := by decide
  rw [h1 _ (pop_le (and_lt_r hB)), pop_and, ofNat_Sm]
  unfold wS
  refine Sg_congr 10 (fun b hb => ?_)
  try dsimp only
  unfold ch ad ad64
  cases h2 : B.testBit b with
  | false => simp
  | true =>
    cases h3 : (nb r).testBit b with
    | false => simp
    | true => simp [hr, hb]
theorem treeC_sum (hn : n ≤ 10) {f : Nat → Int64} {s : Nat} (hs : s < 1024) (h0 : ¬ s = 0) (h1 : ¬ s &&& (s - 1) = 0) : treeC nb f s = Su (s &&& (s - 1)) (fun B => if B.testBit (low (s &&& (s - 1))) = true then wS (ad64 nb) (low s) B * (f B * f (sd s B)) else 0) := by
  have hrl : s &&& (s - 1) < 1024 := and_lt hs
  unfold treeC
  rw [if_neg h1, Su_low hrl h1, lowrest _ hrl h1]
  have hfr : sd (s &&& (s - 1)) (2 ^ low (s &&& (s - 1))) < 1024 := sd_lt hrl
  unfold sub0N
  rw [subN_A]
  have hstep : ∀ t, t < 1024 → ∀ a, limbC nb f s t a = a + wS (ad64 nb) (low s) (t ||| 2 ^ low (s &&& (s - 1))) * (f (t ||| 2 ^ low (s &&& (s - 1))) * f (sd s (t ||| 2 ^ low (s &&& (s - 1))))) := by
    intro t ht a
    unfold limbC
    rw [Nat.or_comm]
    have hol : t ||| 2 ^ low (s &&& (s - 1)) < 1024 := or_lt ht (pow_lt (low_lt hrl h1))
    split
    · rename_i hz; rw [hz, rg22, rg4]; exact (rg7 _).symm
    · rw [pop_wS (low_lt hs h0) hol]; exact rg23 _ _ _ _
  have hsub : ∀ k t a, t < 1024 → subAF (limbC nb f s) (sd (s &&& (s - 1)) (2 ^ low (s &&& (s - 1)))) k t a = subAF (fun t a => a + wS (ad64 nb) (low s) (t ||| 2 ^ low (s &&& (s - 1))) * (f (t ||| 2 ^ low (s &&& (s - 1))) * f (sd s (t ||| 2 ^ low (s &&& (s - 1)))))) (sd (s &&& (s - 1)) (2 ^ low (s &&& (s - 1)))) k t a := by
    intro k
    induction k with
    | zero => intro t a _; rfl
    | succ k ih =>
      intro t a ht
      simp only [subAF]
      split
      · rfl
      · rw [hstep t ht, ih _ _ (Nat.lt_of_le_of_lt Nat.and_le_left (by omega))]
  rw [hstep 0 (by omega)]
  unfold subA
  rw [hsub 1024 _ _ hfr]
  have h2 := subA_all hfr (f := fun t => wS (ad64 nb) (low s) (t ||| 2 ^ low (s &&& (s - 1))) * (f (t ||| 2 ^ low (s &&& (s - 1))) * f (sd s (t ||| 2 ^ low (s &&& (s - 1)))))) (0 : Int64)
  unfold subA at h2
  rw [h2]
  exact rg10 _
theorem tree_dep (hn : n ≤ 10) {f f' : Nat → Int64} {s : Nat} (h0 : 0 < s) (hs : s < 1024) (h : ∀ t, 1 ≤ t → t < s → f t = f' t) : treeG nb f s = treeG nb f' s := by
  unfold treeG
  split
  · by_cases h1 : s &&& (s - 1) = 0
    · unfold treeC; rw [if_pos h1, if_pos h1]
    · rw [treeC_sum hn hs (by omega) h1, treeC_sum hn hs (by omega) h1]
      have hrl : s &&& (s - 1) ≤ s - 1 := Nat.and_le_right
      refine Su_congr (fun B hB e => ?_)
      try dsimp only
      by_cases c : B.testBit (low (s &&& (s - 1))) = true
      · have hBle : B ≤ s &&& (s - 1) := by rw [← e]; exact Nat.and_le_right
        have hB0 : B ≠ 0 := fun g => by rw [g] at c; simp at c
        have hlt : sd s B < s := sd_lss hs (subS_low _ (sub_t.mp e _ c)) c
        have hl : (sd s B).testBit (low s) = true := (sd_t hs).mpr ⟨low_bit hs (by omega), ((rest_t hs (by omega)).mp e).2⟩
        have hs0 : sd s B ≠ 0 := fun g => by rw [g] at hl; simp at hl
        rw [if_pos c, if_pos c, h B (by omega) (by omega), h _ (by omega) hlt]
      · rw [if_neg c, if_neg c]
  · rfl
/-- the class's count of trees -/
theorem ctree_tau (G : GR n nb) {g : Nat → Int64} : ∀ s, 0 < s → s < 2 ^ n → tabN (treeG nb) n g s = tau (ad64 nb) s := by
  have hn := G.1
  have hp := pow10 hn
  intro s
  refine wh_ind (P := fun s => 0 < s → s < 2 ^ n → tabN (treeG nb) n g s = tau (ad64 nb) s) (fun s => s) (fun s ih h0 hs => ?_) s
  have hs1 : s < 1024 := by omega
  rw [tab_rec2 (G := treeG nb) (g := g) (n := n) 1 (Nat.le_refl _) (fun f f' s g1 g2 g3 => tree_dep hn g1 (by omega) g3) h0 hs]
  generalize hT : tabN (treeG nb) n g = T at ih ⊢
  have hlb := low_bit hs1 (by omega)
  unfold treeG
  by_cases hpc : pcN nb s = s
  · rw [if_pos hpc]
    by_cases h1 : s &&& (s - 1) = 0
    · unfold treeC
      rw [if_pos h1, tau_one (by omega) h1]
    · rw [treeC_sum hn hs1 (by omega) h1, tau_low hs1 (by omega) h1]
      unfold TRn
      rw [Su_rest hs1 (by omega)]
      have hrl : s &&& (s - 1) ≤ s - 1 := Nat.and_le_right
      refine Su_congr (fun B hB e => ?_)
      try dsimp only
      cases hb : B.testBit (low s) with
      | true => rw [if_pos rfl, if_neg (fun g => absurd g.2 (by decide))]
      | false =>
        rw [if_neg (by decide)]
        by_cases c : B.testBit (low (s &&& (s - 1))) = true
        · have hBr := (rest_t (t := B) hs1 (by omega)).mpr ⟨e, hb⟩
          have hBle : B ≤ s &&& (s - 1) := by rw [← hBr]; exact Nat.and_le_right
          have hB0 : B ≠ 0 := fun g => by rw [g] at c; simp at c
          have hlt : sd s B < s := sd_lss hs1 (sub_t.mp e _ c) c
          have hl : (sd s B).testBit (low s) = true := (sd_t hs1).mpr ⟨hlb, hb⟩
          have hs0 : sd s B ≠ 0 := fun g => by rw [g] at hl; simp at hl
          rw [if_pos c, if_pos ⟨c, rfl⟩, ih B (by omega) (by omega) (by omega), ih _ hlt (by omega) (by omega)]
        · rw [if_neg c, if_neg (fun g => c g.1)]
  · rw [if_neg hpc]
    have hpe := pc_hang (nb := nb) hn hs (by omega)
    have hsub : subS (pcN nb s) s := by rw [hpe]; exact hang_sub hlb
    refine (tau_sep (ad64_sym G) (H := pcN nb s) s hs1 ⟨low s, hlb, ?_⟩ ?_ (fun u v hu hv hHu hHv => ?_)).symm
    · rw [hpe]; exact hang_self n nb _ _
    · refine Classical.byContradiction (fun hno => hpc (eq_of_bits (fun i => ⟨hsub i, fun hi => ?_⟩)))
      refine Classical.byContradiction (fun hi2 => hno ⟨i, hi, Bool.eq_false_iff.mpr hi2⟩)
    · unfold ad64
      refine if_neg (fun g => ?_)
      rw [hpe] at hHu hHv
      rw [hang_closed (low_lt hs1 (by omega)) hs1 (bit_ltn hs hu) hHu g.2.2 hv] at hHv
      cases hHv
end GG
