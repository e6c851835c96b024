/-! colourings agree -/
theorem rg1 (a b c : Int64) : a * (b * c) = b * a * c := by grind
theorem rg2 (a b : Int64) : a * 0 + b = b := by grind
theorem pull_dep {h f f' : Nat → Int64} {s : Nat} (hs : s < 1024) (hf : ∀ u, u < s → f u = f' u) : pullG h f s = pullG h f' s := by
  rw [pull_sum hs, pull_sum hs]
  refine Su_congr (fun t ht e => ?_)
  try dsimp only
  by_cases c : t.testBit (low s) = true ∧ t ≠ 0
  · have h0 : s ≠ 0 := fun g => by
      rw [g, Nat.and_zero] at e; exact c.2 e.symm
    rw [if_pos c, if_pos c, hf _ (sd_lss hs (low_bit hs h0) c.1)]
  · rw [if_neg c, if_neg c]
theorem pull_0 {h f : Nat → Int64} : pullG h f 0 = 0 := by
  rw [pull_sum (by omega), Su_congr (g := fun _ => 0) (fun t ht e => ?_), Su_0]
  rw [Nat.and_zero] at e
  exact if_neg (fun g => g.2 e.symm)
theorem des_at {h : Nat → Int64} : ∀ t, t ≤ 1024 → ∀ (f : Nat → Int64) U, desF h t f U = if U < t then pullG h f U else f U
  | 0, _, f, U => by rw [if_neg (Nat.not_lt_zero _)]; rfl
  | t + 1, ht, f, U => by
    show desF h t (vp_updL f t (pullG h f t)) U = _
    rw [des_at t (by omega)]
    by_cases e : U < t
    · rw [if_pos e, if_pos (by omega)]
      exact pull_dep (by omega) (fun u hu => vpu_n (by omega))
    · rw [if_neg e]
      by_cases e2 : U = t
      · rw [e2, vpu_s, if_pos (by omega)]
      · rw [vpu_n e2, if_neg (by omega)]
/-- the reference's table after j classes -/
def TTn (n : Nat) (h f0 : Nat → Int64) (j : Nat) : Nat → Int64 := forN (fun _ f => desF h (2 ^ n) f) j f0
def flN (x : Int32) (k : Nat) : Int64 := forN (fun i a => a * (x - nI i).toInt64) k 1
theorem TT_s {n : Nat} (hn : n ≤ 10) {h f0 : Nat → Int64} {j U : Nat} (hU : U < 2 ^ n) : TTn n h f0 (j + 1) U = pullG h (TTn n h f0 j) U := by
  show desF h (2 ^ n) (TTn n h f0 j) U = _
  rw [des_at _ (pow10 hn), if_pos hU]
theorem coN_ok {n : Nat} {x : Int32} {h f0 : Nat → Int64} : ∀ k, forN (coR n x h) k (f0, 0, 1) = (TTn n h f0 k, Sg (fun i => TTn n h f0 i (2 ^ n - 1) * flN x i) k, flN x k)
  | 0 => rfl
  | k + 1 => by
    show coR n x h k (forN (coR n x h) k (f0, 0, 1)) = _
    rw [coN_ok k]
    rfl
theorem coI_at {n : Nat} {nb : Nat → Nat} {q : (Nat → Int64) × (Nat → Int64)} : ∀ U, U < 2 ^ n → (coI n nb q).1 U = (if ¬ U = 0 ∧ apartN n nb U = true then 1 else 0) ∧ (coI n nb q).2 U = (if U = 0 then 1 else 0) := by
  intro U hU
  have h := forN_inv (f := fun k (q : (Nat → Int64) × (Nat → Int64)) => (vp_updL q.1 k (if ¬ k = 0 ∧ apartN n nb k = true then 1 else 0), vp_updL q.2 k (if k = 0 then 1 else 0))) (n := 2 ^ n) (a := q) (I := fun k (q : (Nat → Int64) × (Nat → Int64)) => U < k → q.1 U = (if ¬ U = 0 ∧ apartN n nb U = true then 1 else 0) ∧ q.2 U = (if U = 0 then 1 else 0)) (fun h => absurd h (Nat.not_lt_zero _)) (fun k f hk hf h => ?_) (2 ^ n) (Nat.le_refl _)
  · exact h hU
  · by_cases e : U = k
    · rw [e]; exact ⟨vpu_s, vpu_s⟩
    · have := hf (by omega)
      exact ⟨(vpu_n e).trans this.1, (vpu_n e).trans this.2⟩
theorem clr_ok {n : Nat} {q : (Nat → Int64) × (Nat → Int64)} : ∀ U, U < 2 ^ n → (clrN n q).1 U = 0 ∧ (clrN n q).2 U = 0 := by
  intro U hU
  have h := forN_inv (f := fun k (q : (Nat → Int64) × (Nat → Int64)) => (vp_updL q.1 k 0, vp_updL q.2 k 0)) (n := 2 ^ n) (a := q) (I := fun k (q : (Nat → Int64) × (Nat → Int64)) => U < k → q.1 U = 0 ∧ q.2 U = 0) (fun h => absurd h (Nat.not_lt_zero _)) (fun k f hk hf h => ?_) (2 ^ n) (Nat.le_refl _)
  · exact h hU
  · by_cases e : U = k
    · rw [e]; exact ⟨vpu_s, vpu_s⟩
    · have := hf (by omega)
      exact ⟨(vpu_n e).trans this.1, (vpu_n e).trans this.2⟩
section GG
variable {n : Nat} {nb : Nat → Nat}
theorem col_inv (G : GR n nb) {x : Int32} {q : (Nat → Int64) × (Nat → Int64)} {sw : Bool} {h f0 : Nat → Int64} (ho : ∀ t, t < 2 ^ n → h t = if ¬ t = 0 ∧ apartN n nb t = true then 1 else 0) (hf : ∀ t, t < 2 ^ n → f0 t = if t = 0 then 1 else 0) : ∀ k, (∀ U, U < 2 ^ n → (forN (colR n nb x) k (col0 n q, (col0 n q).1 0, sw)).1.2 U = 0) ∧ (∀ j, Lf (2 ^ n) (forN (colR n nb x) k (col0 n q, (col0 n q).1 0, sw)).1.1 (TTn n h f0 j) = flN x k * TTn n h f0 (k + j) (2 ^ n - 1)) ∧ (forN (colR n nb x) k (col0 n q, (col0 n q).1 0, sw)).2.1 = Sg (fun i => TTn n h f0 i (2 ^ n - 1) * flN x i) (k + 1) := by
  have hn := G.1
  have hp := pow10 hn
  have hp1 : 1 ≤ 2 ^ n := Nat.one_le_two_pow
  have hat : ∀ f : Nat → Int64, Lf (2 ^ n) f (TTn n h f0 0) = f 0 := fun f => by
    unfold Lf
    rw [Sg_one (l := 0) _ (by omega) (fun k hk hne => by
      show f k * f0 k = 0
      rw [hf k hk, if_neg hne]; grind)]
    show f 0 * f0 0 = f 0
    rw [hf 0 (by omega), if_pos rfl]; grind
  intro k
  induction k with
  | zero =>
    have hcl := clr_ok (n := n) (q := q)
    have hrow : ∀ U, U < 2 ^ n → (col0 n q).1 U = if U = 2 ^ n - 1 then 1 else 0 := fun U hU => by
      show vp_updL (clrN n q).1 (2 ^ n - 1) 1 U = _
      by_cases e : U = 2 ^ n - 1
      · rw [if_pos e, e, vpu_s]
      · rw [if_neg e, vpu_n e]; exact (hcl U hU).1
    have hL : ∀ f, Lf (2 ^ n) (col0 n q).1 f = f (2 ^ n - 1) := fun f => by
      unfold Lf
      rw [Sg_one (l := 2 ^ n - 1) _ (by omega) (fun k hk hne => by
        rw [hrow k hk, if_neg hne]; grind), hrow _ (by omega), if_pos rfl]
      grind
    refine ⟨fun U hU => (hcl U hU).2, fun j => ?_, ?_⟩
    · show Lf (2 ^ n) (col0 n q).1 _ = (1 : Int64) * _
      rw [hL, Nat.zero_add]; grind
    · show (col0 n q).1 0 = 0 + TTn n h f0 0 (2 ^ n - 1) * (1 : Int64)
      rw [← hat (col0 n q).1, hL]; grind
  | succ k ih =>
    obtain ⟨i1, i2, i3⟩ := ih
    generalize hq : forN (colR n nb x) k (col0 n q, (col0 n q).1 0, sw) = Q at i1 i2 i3
    have e : forN (colR n nb x) (k + 1) (col0 n q, (col0 n q).1 0, sw) = colR n nb x k Q := by rw [← hq]; rfl
    rw [e]
    obtain ⟨c1, c2⟩ := colC_ok hn (nb := nb) (c := (x - nI k).toInt64) (q := Q.1) i1
    have hL : ∀ j, Lf (2 ^ n) (colC n nb (x - nI k).toInt64 Q.1).2 (TTn n h f0 j) = flN x (k + 1) * TTn n h f0 (k + 1 + j) (2 ^ n - 1) := by
      intro j
      have h1 : Lf (2 ^ n) Q.1.1 (TTn n h f0 (j + 1)) = Sg (fun i => Q.1.1 (i + 1) * Hc nb (TTn n h f0 j) (i + 1)) (2 ^ n - 1) := by
        unfold Lf
        obtain ⟨N, hN⟩ : ∃ N, 2 ^ n = N + 1 := ⟨2 ^ n - 1, by omega⟩
        have hN2 : 2 ^ n - 1 = N := by omega
        rw [hN2, hN, Sg_first, TT_s hn (by omega), pull_0, Sg_congr N (g := fun i => Q.1.1 (i + 1) * Hc nb (TTn n h f0 j) (i + 1)) (fun i hi => ?_)]
        · exact rg2 _ _
        · rw [Hc_pull G ho (by omega) (by omega), TT_s hn (by omega)]
      rw [c2, ← h1, i2, show k + 1 + j = k + (j + 1) by omega]
      show _ = (flN x k * (x - nI k).toInt64) * _
      exact rg1 _ _ _
    refine ⟨c1, hL, ?_⟩
    show Q.2.1 + (colC n nb (x - nI k).toInt64 Q.1).2 0 = _
    rw [i3, ← hat (colC n nb (x - nI k).toInt64 Q.1).2, hL, Sg_s]
    show _ + flN x (k + 1) * TTn n h f0 (k + 1 + 0) (2 ^ n - 1) = _
    rw [Nat.add_zero]
    exact add_same (Int64.mul_comm _ _)
theorem col_eq (G : GR n nb) {x : Int32} {q q' : (Nat → Int64) × (Nat → Int64)} {sw : Bool} : (colN n nb x q sw).2.1 = (coN n nb x q').2.1 := by
  unfold colN coN
  rw [coN_ok, (col_inv G (h := (coI n nb q').1) (f0 := (coI n nb q').2) (fun t ht => (coI_at t ht).1) (fun t ht => (coI_at t ht).2) n).2.2]
end GG
