/-! directions and the colourings with -1 colours, but for the sign -/
theorem rg14 (a : Int64) : a = 1 * (- (-1) * a) := by grind
theorem rg15 (a : Int64) : - a = 1 * (- 1 * a) := by grind
theorem rg16 (a b c : Int64) : a * (b * c) = (-1) * (- b * a * c) := by grind
theorem rg17 (a : Int64) : (-1) * a = - a := by grind
theorem rg18 (a : Int64) : - (- a) = a := by grind
theorem rg19 (a b c d : Int64) (h : a * a = 1) : a * b * (c * (- a * d)) = (-1) * (c * (b * d)) := by grind
theorem rg20 (a : Int64) : (-1) * a = - a := by grind
theorem tab_rec2 {G : (Nat → Int64) → Nat → Int64} {g : Nat → Int64} {n : Nat} (z : Nat) (hz : z ≤ 1) (hG : ∀ f f' s, 0 < s → s < 2 ^ n → (∀ t, z ≤ t → t < s → f t = f' t) → G f s = G f' s) {s : Nat} (h1 : 0 < s) (h2 : s < 2 ^ n) : tabN G n g s = G (tabN G n g) s := by
  have hd : ∀ f f' s, (∀ t, z ≤ t → t < s → f t = f' t) → cutG n G f s = cutG n G f' s := by
    intro f f' s h3
    unfold cutG
    split
    · rename_i h4; exact hG f f' s h4.1 h4.2 h3
    · rfl
  have h := tab_rec (g := g) z hz hd h1 h2
  rw [← tab_cut] at h
  rw [h]
  exact if_pos ⟨h1, h2⟩
def sgN (s : Nat) : Int64 := if pop s &&& 1 = 1 then -1 else 1
theorem sg_sq (s : Nat) : sgN s * sgN s = 1 := by
  unfold sgN
  split <;> rfl
theorem odd_and (k : Nat) : k &&& 1 = 1 ↔ k % 2 = 1 := by
  rw [Nat.and_one_is_mod]
theorem sg_cut {s t : Nat} (hs : s < 1024) (h : t &&& s = t) : sgN s = sgN t * sgN (sd s t) := by
  have hp := pop_sd hs h
  unfold sgN
  simp only [odd_and]
  rw [hp]
  rcases Nat.mod_two_eq_zero_or_one (pop t) with a | a <;> rcases Nat.mod_two_eq_zero_or_one (pop (sd s t)) with b | b
  · rw [if_neg (by omega), if_neg (by omega), if_neg (by omega)]; rfl
  · rw [if_pos (by omega), if_neg (by omega), if_pos (by omega)]; rfl
  · rw [if_pos (by omega), if_pos (by omega), if_neg (by omega)]; rfl
  · rw [if_neg (by omega), if_pos (by omega), if_pos (by omega)]; rfl
theorem fl_s : ∀ k, k < 12 → flN (-1) (k + 1) = - (n64 (k + 1)) * flN (-1) k := by
  intro k hk
  have h : ∀ k, k < 12 → ((-1 : Int32) - nI k).toInt64 = - (n64 (k + 1)) := by decide +kernel
  show flN (-1) k * ((-1 : Int32) - nI k).toInt64 = _
  rw [h k hk]
  exact Int64.mul_comm _ _
section GG
variable {n : Nat} {nb : Nat → Nat}
theorem dir_sum {f : Nat → Int64} {s : Nat} (hs : s < 1024) : dirG n nb f s = Su s (fun t => hI n nb t * (- (sgN t) * f (sd s t))) := by
  unfold dirG
  rw [subN_A, subA_sum hs _ _ (Nat.and_self _), rg10]
  refine Sg_congr 1024 (fun t ht => ?_)
  try dsimp only
  by_cases e : t &&& s = t
  · have hts : t ≤ s := by rw [← e]; exact Nat.and_le_right
    rw [if_pos e]
    unfold hI sgN
    by_cases e0 : t = 0
    · rw [if_neg (show ¬ (t ≠ 0 ∧ t &&& s = t ∧ t ≤ s) from fun g => g.1 e0), if_neg (show ¬ (¬ t = 0 ∧ apartN n nb t = true) from fun g => g.1 e0), rg5]
    · rw [if_pos (show t ≠ 0 ∧ t &&& s = t ∧ t ≤ s from ⟨e0, e, hts⟩)]
      cases ha : apartN n nb t with
      | true =>
        rw [if_pos rfl, if_pos (show ¬ t = 0 ∧ true = true from ⟨e0, rfl⟩)]
        split
        · exact rg14 _
        · exact rg15 _
      | false => rw [if_neg (by decide), if_neg (fun g => absurd g.2 (by decide)), rg5]
  · rw [if_neg (show ¬ (t ≠ 0 ∧ t &&& s = t ∧ t ≤ s) from fun g => e g.2.1), if_neg e]
theorem hI_0 : hI n nb 0 = 0 := if_neg (fun g => g.1 rfl)
theorem dir_dep {f f' : Nat → Int64} {s : Nat} (h0 : 0 < s) (hs : s < 1024) (h : ∀ t, 0 ≤ t → t < s → f t = f' t) : dirG n nb f s = dirG n nb f' s := by
  rw [dir_sum hs, dir_sum hs]
  refine Su_congr (fun t ht e => ?_)
  try dsimp only
  by_cases e0 : t = 0
  · rw [e0, hI_0, rg5, rg5]
  · have hlt : sd s t < s := sd_lss hs (sub_t.mp e _ (low_bit ht e0)) (low_bit ht e0)
    rw [h _ (by omega) hlt]
def FFn (n : Nat) (nb : Nat → Nat) (s : Nat) : Int64 := Sg (fun k => flN (-1) k * akN n nb k s) 12
theorem FF_rec (hn : n ≤ 10) {s : Nat} (h0 : s ≠ 0) (hs : s < 2 ^ n) : Su s (fun t => hI n nb t * FFn n nb (sd s t)) = - FFn n nb s := by
  have hp := pow10 hn
  have e1 : Su s (fun t => hI n nb t * FFn n nb (sd s t)) = Sg (fun k => flN (-1) k * bkN n nb k s) 12 := by
    have e2 : Su s (fun t => hI n nb t * FFn n nb (sd s t)) = Su s (fun t => Sg (fun k => flN (-1) k * (hI n nb t * akN n nb k (sd s t))) 12) := by
      refine Su_congr (fun t ht e => ?_)
      try dsimp only
      unfold FFn
      rw [← Sg_mul]
      exact Sg_congr 12 (fun k _ => rg12 _ _ _)
    rw [e2, Su_Sg]
    exact Sg_congr 12 (fun k _ => Su_mul)
  have e3 : Sg (fun k => flN (-1) k * bkN n nb k s) 12 = Sg (fun k => (-1) * (flN (-1) (k + 1) * akN n nb (k + 1) s)) 12 := by
    refine Sg_congr 12 (fun k hk => ?_)
    try dsimp only
    rw [bk_ak hn k s hs, fl_s k hk]
    exact rg16 _ _ _
  rw [e1, e3, Sg_mul]
  have e4 : FFn n nb s = Sg (fun k => flN (-1) k * akN n nb k s) (12 + 1) := by
    rw [Sg_s, ak_big hn 12 s hs (by have := pop_le (s := s) (by omega); omega), rg4, rg7]
    rfl
  have e5 : Sg (fun k => flN (-1) k * akN n nb k s) (12 + 1) = Sg (fun k => flN (-1) (k + 1) * akN n nb (k + 1) s) 12 := by
    rw [Sg_first, ak_0, if_neg h0, rg4, rg10]
  rw [e4, e5]
  exact rg17 _
/-- the signed table of directions is the colourings' -/
theorem dir_FF (hn : n ≤ 10) {g : Nat → Int64} (hg : g 0 = 1) : ∀ s, s < 2 ^ n → sgN s * tabN (dirG n nb) n g s = FFn n nb s := by
  have hp := pow10 hn
  intro s
  refine wh_ind (P := fun s => s < 2 ^ n → sgN s * tabN (dirG n nb) n g s = FFn n nb s) (fun s => s) (fun s ih hs => ?_) s
  by_cases h0 : s = 0
  · subst h0
    rw [tab_0, hg]
    have : FFn n nb 0 = 1 := by
      unfold FFn
      rw [Sg_one (l := 0) 12 (by omega) (fun k _ hk => by
        obtain ⟨j, rfl⟩ : ∃ j, k = j + 1 := ⟨k - 1, by omega⟩
        rw [ak_e hn, rg4]), ak_0, if_pos rfl]
      rfl
    rw [this]; rfl
  · have hr := tab_rec2 (G := dirG n nb) (g := g) (n := n) 0 (by omega) (fun f f' s h1 h2 h => dir_dep h1 (by omega) h) (s := s) (by omega) hs
    generalize hD : tabN (dirG n nb) n g = D at hr ih ⊢
    rw [hr, dir_sum (by omega)]
    have e1 : FFn n nb s = - Su s (fun t => hI n nb t * FFn n nb (sd s t)) := by rw [FF_rec hn h0 hs]; exact (rg18 _).symm
    rw [e1, ← Su_mul]
    have e2 : Su s (fun t => sgN s * (hI n nb t * (- (sgN t) * D (sd s t)))) = Su s (fun t => (-1) * (hI n nb t * FFn n nb (sd s t))) := by
      refine Su_congr (fun t ht e => ?_)
      try dsimp only
      by_cases e0 : t = 0
      · rw [e0, hI_0, rg5, rg5, rg4, rg4]
      · have hlt : sd s t < s := sd_lss (by omega) (sub_t.mp e _ (low_bit ht e0)) (low_bit ht e0)
        rw [← ih _ hlt (by omega), sg_cut (by omega) e]
        have hq := sg_sq t
        exact rg19 _ _ _ _ hq
    rw [e2, Su_mul]
    exact rg20 _
end GG
