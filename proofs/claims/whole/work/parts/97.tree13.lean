/-! trees agree -/
section GG
variable {n : Nat} {nb : Nat → Nat}
theorem rtree_tau (G : GR n nb) {f : Nat → Int64} {s : Nat} (h0 : 0 < s) (hs : s < 2 ^ n) : (treesN n nb s f).1 = tau (ad64 nb) s := by
  have hn := G.1
  have hp := pow10 hn
  have hs1 : s < 1024 := by omega
  have hlb := low_bit hs1 (by omega)
  have hlast := last_ok (n := n) (s := s) n (low s) (bit_ltn hs hlb) hlb
  have hmax : ∀ a, s.testBit a = true → a ≤ lastN n s := fun a ha => (last_ok (n := n) (s := s) n a (bit_ltn hs ha) ha).2.2
  have hl : s.testBit (lastN n s) = true := hlast.1
  have hl9 : lastN n s ≤ 9 := lastN_lt hn
  generalize hle : lastN n s = l at hmax hl hl9
  obtain ⟨q1, q2⟩ := sqN_at (nb := nb) (s := s) (l := l) (f := f) hl9 l (Nat.le_refl _)
  have hsq : sqN n nb s f = forN (sqR nb s l) l (f, 0) := by unfold sqN; rw [hle]
  -- the vertices in their order
  have hsk : ∃ v : Nat → Nat, ∀ a, a < cnB s l → v a < l ∧ s.testBit (v a) = true ∧ cnB s (v a) = a := by
    have h : ∀ a, ∃ x, a < cnB s l → x < l ∧ s.testBit x = true ∧ cnB s x = a := fun a => by
      by_cases c : a < cnB s l
      · obtain ⟨x, hx⟩ := cn_ex l a c
        exact ⟨x, fun _ => hx⟩
      · exact ⟨0, fun g => absurd g c⟩
    exact Classical.skolem.mp h
  obtain ⟨v, hvv⟩ := hsk
  have hm9 : cnB s l ≤ 9 := by have := cn_le (s := s) l; omega
  have hinj : ∀ i j, i < cnB s l → j < cnB s l → v i = v j → i = j := fun i j hi hj g => by rw [← (hvv i hi).2.2, ← (hvv j hj).2.2, g]
  have hcov : ∀ i, s.testBit i = true → i = l ∨ ∃ j, j < cnB s l ∧ i = v j := fun i hi => by
    by_cases e : i = l
    · exact Or.inl e
    · have hil : i < l := by have := hmax i hi; omega
      have hc := cn_lt hil hi
      refine Or.inr ⟨cnB s i, hc, ?_⟩
      obtain ⟨g1, g2, g3⟩ := hvv _ hc
      rcases Nat.lt_trichotomy i (v (cnB s i)) with g | g | g
      · have := cn_lt g hi; omega
      · exact g
      · have := cn_lt g g2; omega
  have hlv : ∀ j, j < cnB s l → l ≠ v j := fun j hj g => by have := (hvv j hj).1; omega
  have hQs : ∀ a b, adQ nb a b = adQ nb b a := fun a b => by unfold adQ; rw [adZ_sym G]
  have hQn : ∀ a b, 0 ≤ adQ nb a b := fun a b => by
    unfold adQ adZ
    split
    · show (0 : Rat) ≤ 1; decide
    · show (0 : Rat) ≤ 0; decide
  have h9 : ∀ u, s.testBit u = true → wS (adQ nb) u (sd s (2 ^ u)) ≤ 9 := fun u hu => by
    rw [wS_adQ G hs1 (bit_lt10 hs1 hu)]
    have hne : nb u &&& s ≠ s := fun g => by
      have : (nb u &&& s).testBit u = true := by rw [g]; exact hu
      have h2 := (and_t.mp this).1
      rw [G.2.2.2.2 u (bit_ltn hs hu)] at h2; cases h2
    have h3 := pop_smono hs1 (fun i hi => (and_t.mp hi).2) hne
    have h4 := pop_le (s := s) hs1
    have h5 : ((pop (nb u &&& s) : Nat) : Int) ≤ 9 := by omega
    have h6 := Rat.intCast_le_intCast.mpr h5
    exact h6
  -- the entries
  have hZ : ∀ a c, a < cnB s l → c < cnB s l → sqK v (adQ nb) s 0 a c = (((if v a = v c then ((pop (nb (v a) &&& s) : Nat) : Int) else if (nb (v a)).testBit (v c) then -1 else 0) : Int) : Rat) := by
    intro a c ha hc
    unfold sqK Lap
    rw [Nat.zero_add, Nat.zero_add]
    by_cases e : v a = v c
    · rw [if_pos e, if_pos e]
      exact wS_adQ G hs1 (bit_lt10 hs1 (hvv a ha).2.1)
    · rw [if_neg e, if_neg e]
      show - adQ nb (v a) (v c) = _
      unfold adQ adZ
      cases hb : (nb (v a)).testBit (v c) with
      | true => rw [if_pos ⟨bit_lt10 hs1 (hvv a ha).2.1, bit_lt10 hs1 (hvv c hc).2.1, rfl⟩, if_pos rfl]; rfl
      | false => rw [if_neg (fun g => absurd g.2.2 (by decide)), if_neg (by decide)]; rfl
  obtain ⟨t, t1, t2⟩ := bareiss (m := cnB s l) (l := l) hm9 hs1 hQs hQn (fun j hj => (hvv j hj).2.1) hinj h9 hl hlv hcov hZ (cnB s l) 0 (sqN n nb s f).1 1 (Nat.zero_add _) (fun i hi => absurd hi (Nat.not_lt_zero _)) (fun a c _ ha _ hc => by
      refine ⟨(if v a = v c then ((pop (nb (v a) &&& s) : Nat) : Int) else if (nb (v a)).testBit (v c) then -1 else 0), ?_, ?_⟩
      · have h := q2 (v a) (v c) (hvv a ha).1 (hvv c hc).1 (hvv a ha).2.1 (hvv c hc).2.1
        rw [(hvv a ha).2.2, (hvv c hc).2.2, ← hsq] at h
        rw [h]
        unfold sqV
        by_cases e : v a = v c
        · rw [if_pos e, if_pos e]
          have h1 : ∀ k, k ≤ 10 → (nI k).toInt64 = Int64.ofInt ((k : Nat) : Int) := by decide
          exact h1 _ (pop_le (and_lt_r hs1))
        · rw [if_neg e, if_neg e]
          split
          · rfl
          · rfl
      · rw [Nat.sub_zero, Nat.sub_zero, hZ a c ha hc]
        show _ = (1 : Rat) * _
        grind) ⟨1, rfl, rfl⟩
  have hte : (treesN n nb s f).1 = (treeE (cnB s l) (cnB s l) 0 (sqN n nb s f).1 1).1 := by
    have : (sqN n nb s f).2 = cnB s l := by rw [hsq]; exact q1
    unfold treesN
    rw [this]
  rw [hte, t1]
  have hQ : tau (adQ nb) s = ((tau (adZ nb) s : Int) : Rat) := (tau_hom (φ := fun z : Int => (z : Rat)) rfl rfl Rat.intCast_add Rat.intCast_mul 1024 s).symm
  rw [hQ] at t2
  have ht : t = tau (adZ nb) s := Rat.intCast_inj.mp t2
  rw [ht]
  have h64 := tau_hom (φ := Int64.ofInt) (w := adZ nb) rfl rfl Int64.ofInt_add Int64.ofInt_mul 1024 s
  have hw : (fun u v => Int64.ofInt (adZ nb u v)) = ad64 nb := by
    funext u v
    unfold adZ ad64
    split
    · rfl
    · rfl
  rw [hw] at h64
  exact h64
theorem tree_eq (G : GR n nb) {g f : Nat → Int64} {s : Nat} (h0 : 0 < s) (hs : s < 2 ^ n) : tabN (treeG nb) n g s = (treesN n nb s f).1 := by
  rw [ctree_tau G s h0 hs, rtree_tau G h0 hs]
/-- the reference's trees of every set -/
theorem allT_at {q : (Nat → Int64) × (Nat → Int64)} (G : GR n nb) : ∀ j, j ≤ 2 ^ n - 1 → ∀ s, 0 < s → s ≤ j → (forN (fun k q => (vp_updL q.1 (k + 1) (treesN n nb (k + 1) q.2).1, (treesN n nb (k + 1) q.2).2)) j q).1 s = tau (ad64 nb) s := by
  intro j
  induction j with
  | zero => exact fun _ s h0 hs => by omega
  | succ j ih =>
    intro hj s h0 hs
    show vp_updL _ (j + 1) _ s = _
    by_cases e : s = j + 1
    · rw [e, vpu_s]
      exact rtree_tau G (by omega) (by omega)
    · rw [vpu_n e]
      exact ih (by omega) s h0 (by omega)
theorem forest_eq (G : GR n nb) {q : (Nat → Int64) × (Nat → Int64)} {g g1 g2 : Nat → Int64} (h12 : g1 0 = g2 0) {s : Nat} (hs : s < 2 ^ n) : tabN (forC (tabN (treeG nb) n g)) n g1 s = tabN (prodG (allT n nb q).1) n g2 s := by
  refine for_eq G.1 h12 (fun t h0 ht => ?_) hs
  rw [ctree_tau G t h0 ht]
  exact (allT_at G (2 ^ n - 1) (Nat.le_refl _) t h0 (by omega)).symm
end GG
