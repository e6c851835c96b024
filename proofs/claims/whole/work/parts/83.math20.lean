/-! directions agree -/
theorem rg21 (a : Int64) : 1 * a = a := by grind
theorem SgZ_bd {f : Nat → Int} {M : Int} : ∀ m, (∀ k, k < m → 0 ≤ f k ∧ f k ≤ M) → 0 ≤ Sg f m ∧ Sg f m ≤ m * M
  | 0, _ => by
    show (0 : Int) ≤ 0 ∧ (0 : Int) ≤ ((0 : Nat) : Int) * M
    omega
  | m + 1, h => by
    have i := SgZ_bd m (fun k hk => h k (by omega))
    have j := h m (by omega)
    rw [Sg_s]
    have e : ((m + 1 : Nat) : Int) * M = (m : Int) * M + M := by
      rw [Int.natCast_add, Int.add_mul]; omega
    omega
section GG
variable {n : Nat} {nb : Nat → Nat}
theorem NZ_bd (G : GR n nb) : ∀ S, S < 2 ^ n → ∀ X, X < 1024 → 0 ≤ NZ n nb S X ∧ NZ n nb S X ≤ 10 ^ pop S := by
  have hn := G.1
  have hp := pow10 hn
  intro S
  refine wh_ind (P := fun S => S < 2 ^ n → ∀ X, X < 1024 → 0 ≤ NZ n nb S X ∧ NZ n nb S X ≤ 10 ^ pop S) (fun S => S) (fun S ih hS X hX => ?_) S
  by_cases h0 : S = 0
  · subst h0
    have e : NZ n nb 0 X = 1 := by
      unfold NZ Su
      rw [Sg_one (l := 0) 1024 (by omega) (fun t _ hne => if_neg (fun g => hne (by rw [Nat.and_zero] at g; exact g.symm))), if_pos (Nat.zero_and _)]
      rw [if_pos ⟨Nat.zero_and _, apart_0⟩]
      rfl
    rw [e, show pop 0 = 0 by decide]
    decide
  · rw [NZ_rec G hS hX h0]
    have hpop : 1 ≤ pop S := pop_pos (by omega) h0
    have h := SgZ_bd (f := fun c => if S.testBit c = true ∧ X.testBit c = false then NZ n nb (sd S (2 ^ c)) (XcN nb S X c) else 0) (M := 10 ^ (pop S - 1)) 10 (fun c hc => ?_)
    · have e : (10 : Int) ^ pop S = ((10 : Nat) : Int) * 10 ^ (pop S - 1) := by
        obtain ⟨m, hm⟩ : ∃ m, pop S = m + 1 := ⟨pop S - 1, by omega⟩
        rw [hm, Nat.add_sub_cancel, Int.pow_succ]
        omega
      rw [e]
      exact h
    · by_cases c1 : S.testBit c = true ∧ X.testBit c = false
      · try dsimp only
        rw [if_pos c1]
        have hlt := sd_one_lt (show S < 1024 by omega) c1.1
        have h1 : 2 ^ c &&& S = 2 ^ c := sub_t.mpr (fun i hi => by rw [pow_t.mp hi]; exact c1.1)
        have h2 := pop_sd (show S < 1024 by omega) h1
        have h3 : pop (2 ^ c) = 1 := by
          have : ∀ c, c < 10 → pop (2 ^ c) = 1 := by decide
          exact this c hc
        have hX2 : XcN nb S X c < 1024 := and_lt (sd_lt (sd_lt (by omega)))
        have i := ih _ hlt (by omega) _ hX2
        rw [show pop S - 1 = pop (sd S (2 ^ c)) by omega]
        exact i
      · try dsimp only
        rw [if_neg c1]
        exact ⟨by omega, Int.le_of_lt (Int.pow_pos (by decide))⟩
theorem dz_bd (G : GR n nb) {S : Nat} (hS : S < 2 ^ n) : 0 ≤ dzN n nb S ∧ dzN n nb S ≤ 10 ^ 10 := by
  have hp := pow10 G.1
  have h := NZ_bd G S hS 0 (by omega)
  have e : NZ n nb S 0 = dzN n nb S := by
    unfold NZ Su
    have hz : sd S 0 = S := eq_of_bits (fun i => by rw [sd_t (by omega)]; simp)
    rw [Sg_one (l := 0) 1024 (by omega) (fun t _ hne => ?_), if_pos (Nat.zero_and _)]
    · show (if 0 &&& 0 = 0 ∧ apartN n nb 0 = true then sgZ 0 * dzN n nb (sd S 0) else 0) = _
      rw [if_pos ⟨rfl, apart_0⟩, hz, show sgZ 0 = 1 by decide]
      omega
    · split
      · exact if_neg (fun g => hne (by have := g.1; rw [Nat.and_zero] at this; exact this.symm))
      · rfl
  rw [e] at h
  refine ⟨h.1, Int.le_trans h.2 ?_⟩
  have hple := pop_le (s := S) (by omega)
  have : (10 : Nat) ^ pop S ≤ 10 ^ 10 := Nat.pow_le_pow_right (by decide) hple
  have e2 : ((10 : Int) ^ pop S) = (((10 : Nat) ^ pop S : Nat) : Int) := by rw [Int.natCast_pow]; rfl
  rw [e2]
  have e3 : ((10 : Int) ^ 10) = (((10 : Nat) ^ 10 : Nat) : Int) := by decide
  rw [e3]
  omega
theorem ofInt_Sg {f : Nat → Int} : ∀ m, Int64.ofInt (Sg f m) = Sg (fun k => Int64.ofInt (f k)) m
  | 0 => rfl
  | m + 1 => by rw [Sg_s, Sg_s, Int64.ofInt_add, ofInt_Sg m]
theorem ofInt_Su {s : Nat} {f : Nat → Int} : Int64.ofInt (Su s f) = Su s (fun t => Int64.ofInt (f t)) := by
  unfold Su
  rw [ofInt_Sg]
  refine Sg_congr 1024 (fun t _ => ?_)
  try dsimp only
  split
  · rfl
  · rfl
/-- the reference's table in whole numbers -/
theorem dir_dz (hn : n ≤ 10) {g : Nat → Int64} (hg : g 0 = 1) : ∀ s, s < 2 ^ n → tabN (dirG n nb) n g s = Int64.ofInt (dzN n nb s) := by
  have hp := pow10 hn
  intro s
  refine wh_ind (P := fun s => s < 2 ^ n → tabN (dirG n nb) n g s = Int64.ofInt (dzN n nb s)) (fun s => s) (fun s ih hs => ?_) s
  by_cases h0 : s = 0
  · subst h0
    rw [tab_0, hg, dz_0]; rfl
  · have hr := tab_rec2 (G := dirG n nb) (g := g) (n := n) 0 (by omega) (fun f f' s h1 h2 h => dir_dep h1 (by omega) h) (s := s) (by omega) hs
    rw [hr, dir_sum (by omega), dz_rec (by omega) h0, ofInt_Su]
    refine Su_congr (fun t ht e => ?_)
    try dsimp only
    by_cases c : ¬ t = 0 ∧ apartN n nb t = true
    · have hlt := sub_lt (show s < 1024 by omega) ht e c.1
      rw [show hI n nb t = 1 from if_pos c, if_pos c, ih _ hlt (by omega), Int64.ofInt_mul, Int64.ofInt_neg]
      have e2 : Int64.ofInt (sgZ t) = sgN t := by unfold sgZ sgN; split <;> rfl
      rw [e2]
      exact rg21 _
    · rw [show hI n nb t = 0 from if_neg c, if_neg c, rg5]; rfl
theorem dir_final (G : GR n nb) {q : (Nat → Int64) × (Nat → Int64)} {sw : Bool} {g : Nat → Int64} (hg : g 0 = 1) : (if 0 < (colN n nb (-1) q sw).2.1 then (colN n nb (-1) q sw).2.1 else - (colN n nb (-1) q sw).2.1) = tabN (dirG n nb) n g (2 ^ n - 1) := by
  have hn := G.1
  have hp := pow10 hn
  have hp1 : 1 ≤ 2 ^ n := Nat.one_le_two_pow
  have hP : (colN n nb (-1) q sw).2.1 = FFn n nb (2 ^ n - 1) := by
    unfold colN
    rw [(col_inv G (h := hI n nb) (f0 := dl0) (fun t ht => rfl) (fun t ht => rfl) n).2.2]
    unfold FFn
    rw [Sg_ext (f := fun k => flN (-1) k * akN n nb k (2 ^ n - 1)) (n := n + 1) 12 (by omega) (fun k h1 h2 => by
      rw [ak_big hn k _ (by omega) (by rw [pop_all hn]; omega), rg4])]
    exact Sg_congr _ (fun k _ => Int64.mul_comm _ _)
  have hD := dir_dz (nb := nb) hn hg (2 ^ n - 1) (by omega)
  have hF := dir_FF (nb := nb) hn hg (2 ^ n - 1) (by omega)
  have hb := dz_bd G (S := 2 ^ n - 1) (by omega)
  generalize hz : dzN n nb (2 ^ n - 1) = z at hD hb
  have h10 : (10 : Int) ^ 10 = 10000000000 := by decide
  rw [h10] at hb
  have hzi : (Int64.ofInt z).toInt = z := Int64.toInt_ofInt_of_le (by omega) (by omega)
  rw [hP, ← hF, hD]
  unfold sgN
  split
  · have e1 : (-1 : Int64) * Int64.ofInt z = - Int64.ofInt z := rg17 _
    rw [e1]
    have hneg : ¬ 0 < - Int64.ofInt z := by
      rw [Int64.lt_iff_toInt_lt, ← Int64.ofInt_neg, Int64.toInt_ofInt_of_le (by omega) (by omega)]
      show ¬ (0 : Int) < -z
      omega
    rw [if_neg hneg]
    exact rg18 _
  · have e1 : (1 : Int64) * Int64.ofInt z = Int64.ofInt z := rg21 _
    rw [e1]
    split
    · rfl
    · rename_i hno
      have hz0 : z = 0 := by
        rw [Int64.lt_iff_toInt_lt, hzi] at hno
        change ¬ (0 : Int) < z at hno
        omega
      rw [hz0]; rfl
end GG
