/-! tables over all sets -/
theorem tab_stage {G : (Nat → Int64) → Nat → Int64} {g : Nat → Int64} (z : Nat) (hz : z ≤ 1) (hG : ∀ f f' s, (∀ t, z ≤ t → t < s → f t = f' t) → G f s = G f' s) : ∀ j, (forN (fun k f => vp_updL f (k + 1) (G f (k + 1))) j g 0 = g 0) ∧ ∀ s, 0 < s → s ≤ j → forN (fun k f => vp_updL f (k + 1) (G f (k + 1))) j g s = G (forN (fun k f => vp_updL f (k + 1) (G f (k + 1))) j g) s := by
  intro j
  induction j with
  | zero => exact ⟨rfl, fun s h1 h2 => by omega⟩
  | succ j ih =>
    generalize hT : forN (fun k f => vp_updL f (k + 1) (G f (k + 1))) j g = T at ih
    have e : forN (fun k f => vp_updL f (k + 1) (G f (k + 1))) (j + 1) g = vp_updL T (j + 1) (G T (j + 1)) := by rw [← hT]; rfl
    rw [e]
    refine ⟨by rw [vpu_n (by omega)]; exact ih.1, fun s h1 h2 => ?_⟩
    by_cases es : s = j + 1
    · subst es
      rw [vpu_s]
      exact hG _ _ _ (fun t _ ht => by rw [vpu_n (by omega)])
    · rw [vpu_n es, ih.2 s h1 (by omega)]
      exact hG _ _ _ (fun t _ ht => by rw [vpu_n (by omega)])
theorem tab_rec {G : (Nat → Int64) → Nat → Int64} {g : Nat → Int64} {n : Nat} (z : Nat) (hz : z ≤ 1) (hG : ∀ f f' s, (∀ t, z ≤ t → t < s → f t = f' t) → G f s = G f' s) {s : Nat} (h1 : 0 < s) (h2 : s < 2 ^ n) : tabN G n g s = G (tabN G n g) s := (tab_stage z hz hG (2 ^ n - 1)).2 s h1 (by omega)
theorem tab_0 {G : (Nat → Int64) → Nat → Int64} {g : Nat → Int64} {n : Nat} : tabN G n g 0 = g 0 := by
  unfold tabN
  refine forN_inv (I := fun _ (f : Nat → Int64) => f 0 = g 0) rfl (fun k f hk hf => ?_) _ (Nat.le_refl _)
  rw [vpu_n (by omega)]
  exact hf
/-- two tables by the same rule -/
theorem tab_eq {G G' : (Nat → Int64) → Nat → Int64} {g g' : Nat → Int64} {n : Nat} (z : Nat) (hz : z ≤ 1) (h0 : z = 0 → g 0 = g' 0) (hG : ∀ f f' s, (∀ t, z ≤ t → t < s → f t = f' t) → G f s = G f' s) (hG' : ∀ f f' s, (∀ t, z ≤ t → t < s → f t = f' t) → G' f s = G' f' s) (h : ∀ f s, 0 < s → s < 2 ^ n → G f s = G' f s) : ∀ s, z ≤ s → s < 2 ^ n → tabN G n g s = tabN G' n g' s := by
  intro s
  refine wh_ind (P := fun s => z ≤ s → s < 2 ^ n → tabN G n g s = tabN G' n g' s) (fun s => s) (fun s ih hzs hs => ?_) s
  by_cases e : s = 0
  · subst e
    rw [tab_0, tab_0]
    exact h0 (by omega)
  · rw [tab_rec z hz hG (by omega) hs, tab_rec z hz hG' (by omega) hs, h _ s (by omega) hs]
    exact hG' _ _ _ (fun t h1 h2 => ih t h2 h1 (by omega))
/-! matchings -/
theorem bit_sum {g : Nat → Int64} : ∀ t a, t < 1024 → bitN (fun t a => a + g (low t)) t a = a + Sg (fun w => if t.testBit w then g w else 0) 10 := by
  intro t
  refine wh_ind (P := fun t => ∀ a, t < 1024 → bitN (fun t a => a + g (low t)) t a = a + Sg (fun w => if t.testBit w then g w else 0) 10) (fun t => t) (fun t ih a ht => ?_) t
  by_cases h0 : t = 0
  · subst h0
    rw [bitN_0, Sg_congr 10 (g := fun _ => 0) (fun k _ => if_neg (by simp)), Sg_0]
    grind
  · have hle : t &&& (t - 1) ≤ t - 1 := Nat.and_le_right
    rw [bitN_s ht h0, ih _ (by omega) _ (by omega)]
    have e : Sg (fun w => if t.testBit w then g w else 0) 10 = Sg (fun w => (if (t &&& (t - 1)).testBit w then g w else 0) + (if w = low t then g w else 0)) 10 := by
      refine Sg_congr 10 (fun w hw => ?_)
      have h1 := lowrest_t (i := w) ht h0
      by_cases e1 : w = low t
      · have h2 : (t &&& (t - 1)).testBit w = false := by
          rw [lowrest t ht h0]
          refine Bool.eq_false_iff.mpr (fun g => ?_)
          have := ((sd_t ht).mp g).2
          rw [e1, pow_t.mpr rfl] at this; cases this
        rw [if_pos (h1.mpr (Or.inl e1)), h2, if_neg (by decide), if_pos e1]; grind
      · rw [if_neg e1]
        cases h2 : (t &&& (t - 1)).testBit w with
        | true => rw [if_pos (h1.mpr (Or.inr h2)), if_pos rfl]; grind
        | false =>
          cases h3 : t.testBit w with
          | false => simp
          | true =>
            rcases h1.mp h3 with g | g
            · exact absurd g e1
            · rw [h2] at g; cases g
    rw [e, Sg_add, Sg_one (l := low t) (f := fun w => if w = low t then g w else 0) 10 (low_lt ht h0) (fun k _ hne => if_neg hne), if_pos rfl]
    grind
section GG
variable {n : Nat} {nb : Nat → Nat}
theorem matG_sum {each : Bool} {f : Nat → Int64} {s : Nat} : matG n nb each f s = (if each then 0 else f (sd s (2 ^ low s))) + Sg (fun w => if (nb (low s) &&& sd s (2 ^ low s)).testBit w then f (sd (sd s (2 ^ low s)) (2 ^ w)) else 0) n := by
  unfold matG
  exact Sg_from _ _ n
theorem matC_sum {each : Bool} {f : Nat → Int64} {s : Nat} (hs : s < 1024) : matC nb each f s = (if each then 0 else f (s &&& (s - 1))) + Sg (fun w => if (nb (low s) &&& (s &&& (s - 1))).testBit w then f (sd (s &&& (s - 1)) (2 ^ w)) else 0) 10 := by
  unfold matC
  have hl : s &&& (s - 1) < 1024 := and_lt hs
  exact bit_sum (g := fun w => f (sd (s &&& (s - 1)) (2 ^ w))) _ _ (and_lt_r hl)
theorem mat_same (G : GR n nb) {each : Bool} {f : Nat → Int64} {s : Nat} (h0 : 0 < s) (hs : s < 2 ^ n) : matC nb each f s = matG n nb each f s := by
  have hn := G.1
  have hp := pow10 hn
  rw [matG_sum, matC_sum (by omega), lowrest s (by omega) (by omega)]
  congr 1
  refine Sg_ext 10 hn (fun k h1 h2 => if_neg (fun h => ?_))
  have := bit_ltn (Nat.lt_of_le_of_lt sd_le hs) (and_t.mp h).2
  omega
theorem sd_one_lt {s w : Nat} (hs : s < 1024) (h : s.testBit w = true) : sd s (2 ^ w) < s := sd_lss hs h (pow_t.mpr rfl)
theorem matG_dep {each : Bool} : ∀ (f f' : Nat → Int64) (s : Nat), s < 1024 → 0 < s → (∀ t, 0 ≤ t → t < s → f t = f' t) → matG n nb each f s = matG n nb each f' s := by
  intro f f' s hs h0 h
  have hlb := low_bit hs (by omega)
  have h1 := sd_one_lt hs hlb
  rw [matG_sum, matG_sum, h _ (by omega) h1]
  congr 1
  refine Sg_congr n (fun w _ => ?_)
  cases hb : (nb (low s) &&& sd s (2 ^ low s)).testBit w with
  | false => rfl
  | true =>
    rw [if_pos rfl, if_pos rfl, h _ (by omega) (Nat.lt_of_le_of_lt sd_le h1)]
end GG
/-- a rule looked at only where it counts -/
def cutG (n : Nat) (G : (Nat → Int64) → Nat → Int64) (f : Nat → Int64) (s : Nat) : Int64 := if 0 < s ∧ s < 2 ^ n then G f s else 0
theorem tab_cut {G : (Nat → Int64) → Nat → Int64} {g : Nat → Int64} {n : Nat} : tabN G n g = tabN (cutG n G) n g := by
  unfold tabN
  refine forN_congr2 _ _ (fun k hk f => ?_)
  rw [show cutG n G f (k + 1) = G f (k + 1) from if_pos ⟨by omega, by omega⟩]
/-- two tables by the same rule, on the sets there are -/
theorem tab_eq2 {G G' : (Nat → Int64) → Nat → Int64} {g g' : Nat → Int64} {n : Nat} (z : Nat) (hz : z ≤ 1) (h0 : z = 0 → g 0 = g' 0) (hG' : ∀ f f' s, 0 < s → s < 2 ^ n → (∀ t, z ≤ t → t < s → f t = f' t) → G' f s = G' f' s) (h : ∀ f s, 0 < s → s < 2 ^ n → G f s = G' f s) : ∀ s, z ≤ s → s < 2 ^ n → tabN G n g s = tabN G' n g' s := by
  intro s h1 h2
  rw [tab_cut (G := G), tab_cut (G := G')]
  have hc : cutG n G = cutG n G' := by
    funext f s
    unfold cutG
    split
    · rename_i h3; exact h f s h3.1 h3.2
    · rfl
  have hd : ∀ f f' s, (∀ t, z ≤ t → t < s → f t = f' t) → cutG n G' f s = cutG n G' f' s := by
    intro f f' s h3
    unfold cutG
    split
    · rename_i h4; exact hG' f f' s h4.1 h4.2 h3
    · rfl
  rw [hc]
  exact tab_eq z hz h0 hd hd (fun _ _ _ _ => rfl) s h1 h2
section GG
variable {n : Nat} {nb : Nat → Nat}
theorem mat_eq (G : GR n nb) {each : Bool} {g g' : Nat → Int64} (h0 : g 0 = g' 0) {s : Nat} (hs : s < 2 ^ n) : tabN (matC nb each) n g s = tabN (matG n nb each) n g' s := by
  have hp := pow10 G.1
  exact tab_eq2 0 (by omega) (fun _ => h0) (fun f f' s h1 h2 h => matG_dep f f' s (by omega) h1 h) (fun f s h1 h2 => mat_same G h1 h2) s (by omega) hs
end GG
