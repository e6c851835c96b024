/-! directions: the colourings with -1 colours -/
theorem rg10 (a : Int64) : 0 + a = a := by grind
theorem rg11 (a : Int64) : a + 0 = 1 * a := by grind
theorem rg12 (a b c : Int64) : a * (b * c) = b * (a * c) := by grind
theorem rg13 (a b : Int64) : b + a * b = (a + 1) * b := by grind
def hI (n : Nat) (nb : Nat → Nat) (t : Nat) : Int64 := if ¬ t = 0 ∧ apartN n nb t = true then 1 else 0
def dl0 (t : Nat) : Int64 := if t = 0 then 1 else 0
/-- cut into k classes -/
def akN (n : Nat) (nb : Nat → Nat) (k s : Nat) : Int64 := TTn n (hI n nb) dl0 k s
section GG
variable {n : Nat} {nb : Nat → Nat}
theorem ak_0 {s : Nat} : akN n nb 0 s = if s = 0 then 1 else 0 := rfl
theorem ak_s (hn : n ≤ 10) {k s : Nat} (hs : s < 2 ^ n) : akN n nb (k + 1) s = Su s (fun t => if t.testBit (low s) = true then hI n nb t * akN n nb k (sd s t) else 0) := by
  have hp := pow10 hn
  unfold akN
  rw [TT_s hn hs, pull_sum (by omega)]
  refine Su_congr (fun t ht e => ?_)
  try dsimp only
  by_cases c : t.testBit (low s) = true ∧ t ≠ 0
  · rw [if_pos c, if_pos c.1]
  · rw [if_neg c]
    by_cases c2 : t.testBit (low s) = true
    · have ht0 : t = 0 := Classical.byContradiction (fun g => c ⟨c2, g⟩)
      rw [if_pos c2, ht0, show hI n nb 0 = 0 from if_neg (fun g => g.1 rfl), rg5]
    · rw [if_neg c2]
theorem ak_e (hn : n ≤ 10) {k : Nat} : akN n nb (k + 1) 0 = 0 := by
  have hp1 : 1 ≤ 2 ^ n := Nat.one_le_two_pow
  unfold akN
  rw [TT_s hn (by omega), pull_0]
theorem pop_sd {s t : Nat} (hs : s < 1024) (h : t &&& s = t) : pop s = pop t + pop (sd s t) := by
  rw [pop_Sm, pop_Sm, pop_Sm, ← Sm_add]
  refine Sm_congr 10 (fun k _ => ?_)
  unfold ch
  rw [sd_bit _ _ _ hs]
  cases h1 : s.testBit k <;> cases h2 : t.testBit k
  · rfl
  · rw [sub_t.mp h k h2] at h1; cases h1
  · rfl
  · rfl
theorem ak_big (hn : n ≤ 10) : ∀ k s, s < 2 ^ n → pop s < k → akN n nb k s = 0
  | 0, s, hs, h => absurd h (Nat.not_lt_zero _)
  | k + 1, s, hs, h => by
    have hp := pow10 hn
    rw [ak_s hn hs, Su_congr (g := fun _ => 0) (fun t ht e => ?_), Su_0]
    split
    · rename_i hb
      have h1 := pop_sd (show s < 1024 by omega) e
      have h2 : 0 < pop t := by
        have : pop 0 < pop t := pop_smono ht (subS_0 _) (fun g => by rw [← g] at hb; simp at hb)
        omega
      rw [ak_big hn k _ (Nat.lt_of_le_of_lt sd_le hs) (by omega), rg4]
    · rfl
/-- any class first -/
def bkN (n : Nat) (nb : Nat → Nat) (k s : Nat) : Int64 := Su s (fun t => hI n nb t * akN n nb k (sd s t))
def n64 (k : Nat) : Int64 := Int64.ofNat k
theorem n64_s (k : Nat) : n64 (k + 1) = n64 k + 1 := by
  unfold n64
  exact Int64.ofNat_add k 1
theorem sd_low2 {s t : Nat} (hs : s < 1024) (h0 : s ≠ 0) (ht : t.testBit (low s) = false) : low (sd s t) = low s ∧ (sd s t).testBit (low s) = true := by
  have hb : (sd s t).testBit (low s) = true := (sd_t hs).mpr ⟨low_bit hs h0, ht⟩
  have hne : sd s t ≠ 0 := fun g => by rw [g] at hb; simp at hb
  refine ⟨?_, hb⟩
  rcases Nat.lt_trichotomy (low (sd s t)) (low s) with g | g | g
  · have h1 := low_min hs _ g
    rw [((sd_t hs).mp (low_bit (sd_lt hs) hne)).1] at h1; cases h1
  · exact g
  · have h1 := low_min (sd_lt (b := t) hs) _ g
    rw [hb] at h1; cases h1
theorem bk_ak (hn : n ≤ 10) : ∀ k s, s < 2 ^ n → bkN n nb k s = n64 (k + 1) * akN n nb (k + 1) s := by
  have hp := pow10 hn
  -- split by the lowest vertex
  have hsplit : ∀ k s, s < 2 ^ n → s ≠ 0 → bkN n nb k s = akN n nb (k + 1) s + Su s (fun t => if t.testBit (low s) = true then 0 else hI n nb t * akN n nb k (sd s t)) := by
    intro k s hs h0
    rw [ak_s hn hs, ← Su_add]
    refine Su_congr (fun t ht e => ?_)
    try dsimp only
    cases t.testBit (low s)
    · rw [if_neg (by decide), if_neg (by decide)]; exact (rg10 _).symm
    · rw [if_pos rfl, if_pos rfl]; exact (rg7 _).symm
  have hz : ∀ k, bkN n nb k 0 = 0 := fun k => by
    unfold bkN
    rw [Su_congr (g := fun _ => 0) (fun t ht e => ?_), Su_0]
    rw [Nat.and_zero] at e
    rw [← e, show hI n nb 0 = 0 from if_neg (fun g => g.1 rfl), rg5]
  intro k
  induction k with
  | zero =>
    intro s hs
    by_cases h0 : s = 0
    · rw [h0, hz, ak_e hn, rg4]
    · rw [hsplit 0 s hs h0, Su_congr (g := fun _ => 0) (fun t ht e => ?_), Su_0]
      · rw [show n64 (0 + 1) = 1 from rfl]; exact rg11 _
      · cases hb : t.testBit (low s) with
        | true => rw [if_pos rfl]
        | false =>
          have := (sd_low2 (show s < 1024 by omega) h0 hb).2
          rw [if_neg (by decide), ak_0, if_neg (fun g => by rw [g] at this; simp at this), rg4]
  | succ k ih =>
    intro s hs
    by_cases h0 : s = 0
    · rw [h0, hz, ak_e hn, rg4]
    · rw [hsplit (k + 1) s hs h0]
      have e1 : Su s (fun t => if t.testBit (low s) = true then 0 else hI n nb t * akN n nb (k + 1) (sd s t)) = Su s (fun t => Su (sd s t) (fun u => if u.testBit (low s) = true then hI n nb t * (hI n nb u * akN n nb k (sd (sd s t) u)) else 0)) := by
        refine Su_congr (fun t ht e => ?_)
        try dsimp only
        cases hb : t.testBit (low s) with
        | true =>
          rw [if_pos rfl, Su_congr (g := fun _ => 0) (fun u hu e2 => ?_), Su_0]
          refine if_neg (fun g => ?_)
          have := ((sd_t (show s < 1024 by omega)).mp (sub_t.mp e2 _ g)).2
          rw [hb] at this; cases this
        | false =>
          obtain ⟨l1, l2⟩ := sd_low2 (show s < 1024 by omega) h0 hb
          rw [if_neg (by decide), ak_s hn (Nat.lt_of_le_of_lt sd_le hs), l1, ← Su_mul]
          refine Su_congr (fun u hu e2 => ?_)
          try dsimp only
          split
          · rfl
          · exact rg4 _
      have e2 : Su s (fun t => Su (sd s t) (fun u => if u.testBit (low s) = true then hI n nb t * (hI n nb u * akN n nb k (sd (sd s t) u)) else 0)) = Su s (fun u => if u.testBit (low s) = true then hI n nb u * bkN n nb k (sd s u) else 0) := by
        rw [Su_swap (by omega)]
        refine Su_congr (fun u hu e => ?_)
        try dsimp only
        split
        · unfold bkN
          rw [← Su_mul]
          refine Su_congr (fun t ht e2 => ?_)
          try dsimp only
          rw [sd_comm (by omega)]
          exact rg12 _ _ _
        · rw [Su_0]
      have e3 : Su s (fun u => if u.testBit (low s) = true then hI n nb u * bkN n nb k (sd s u) else 0) = n64 (k + 1) * akN n nb (k + 1 + 1) s := by
        rw [ak_s hn hs, ← Su_mul]
        refine Su_congr (fun u hu e => ?_)
        try dsimp only
        split
        · rw [ih _ (Nat.lt_of_le_of_lt sd_le hs)]; exact rg12 _ _ _
        · exact (rg4 _).symm
      rw [e1, e2, e3, n64_s (k + 1)]
      exact rg13 _ _
end GG
