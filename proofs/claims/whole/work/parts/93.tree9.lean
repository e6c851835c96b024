/-! whole numbers in the square, and how large they grow -/
theorem det_cast : ∀ (m : Nat) (Z : Nat → Nat → Int), detG m (fun r c => ((Z r c : Int) : Rat)) = ((detG m Z : Int) : Rat)
  | 0, Z => rfl
  | m + 1, Z => by
    have hS : ∀ (k : Nat) (f : Nat → Int), ((Sg f k : Int) : Rat) = Sg (fun i => ((f i : Int) : Rat)) k := by
      intro k f
      induction k with
      | zero => rfl
      | succ k ih => rw [Sg_s, Sg_s, Rat.intCast_add, ih]
    have e : detG (m + 1) Z = Sg (fun i => sgE i * (Z i 0 * detG m (mnr Z i))) (m + 1) := rfl
    rw [e, hS]
    show Sg _ (m + 1) = _
    refine Sg_congr (m + 1) (fun i _ => ?_)
    try dsimp only
    rw [Rat.intCast_mul, Rat.intCast_mul, ← det_cast m (mnr Z i)]
    have h1 : ((sgE i : Int) : Rat) = sgE i := by
      unfold sgE
      split
      · rfl
      · rfl
    rw [h1]
    rfl
theorem elm_inner {k m : Nat} {b : Int64} {i : Nat} {f : Nat → Int64} (hm : m ≤ 9) (hi : k + 1 ≤ i) (hi2 : i < m) : ∀ d, d ≤ m - (k + 1) → (∀ r c, c < 10 → ¬ (r = i ∧ k + 1 ≤ c ∧ c < k + 1 + d) → forN (elmJ k b i) d f (10 * r + c) = f (10 * r + c)) ∧ ∀ c, k + 1 ≤ c → c < k + 1 + d → forN (elmJ k b i) d f (10 * i + c) = (f (10 * i + c) * f (10 * k + k) - f (10 * i + k) * f (10 * k + c)) / b := by
  intro d
  induction d with
  | zero => exact fun _ => ⟨fun r c _ _ => rfl, fun c h1 h2 => by omega⟩
  | succ d ih =>
    intro hd
    obtain ⟨i1, i2⟩ := ih (by omega)
    generalize hT : forN (elmJ k b i) d f = T at i1 i2
    have e : forN (elmJ k b i) (d + 1) f = vp_updL T (10 * i + (k + 1 + d)) ((T (10 * i + (k + 1 + d)) * T (10 * k + k) - T (10 * i + k) * T (10 * k + (k + 1 + d))) / b) := by rw [← hT]; rfl
    rw [e]
    refine ⟨fun r c hc hn => ?_, fun c h1 h2 => ?_⟩
    · rw [vpu_n (fun g => hn (by omega)), i1 r c hc (fun g => hn (by omega))]
    · by_cases ec : c = k + 1 + d
      · subst ec
        rw [vpu_s, i1 i _ (by omega) (by omega), i1 k k (by omega) (by omega), i1 i k (by omega) (by omega), i1 k _ (by omega) (by omega)]
      · rw [vpu_n (by omega), i2 c h1 (by omega)]
theorem elm_at {k m : Nat} {b : Int64} {f : Nat → Int64} (hm : m ≤ 9) (hk : k < m) {i c : Nat} (h1 : k + 1 ≤ i) (h2 : i < m) (h3 : k + 1 ≤ c) (h4 : c < m) : elmN k m b f (10 * i + c) = (f (10 * i + c) * f (10 * k + k) - f (10 * i + k) * f (10 * k + c)) / b := by
  have key : ∀ d, d ≤ m - (k + 1) → (∀ r c, c < 10 → ¬ (k + 1 ≤ r ∧ r < k + 1 + d ∧ k + 1 ≤ c ∧ c < m) → forN (elmI k m b) d f (10 * r + c) = f (10 * r + c)) ∧ ∀ r c, k + 1 ≤ r → r < k + 1 + d → k + 1 ≤ c → c < m → forN (elmI k m b) d f (10 * r + c) = (f (10 * r + c) * f (10 * k + k) - f (10 * r + k) * f (10 * k + c)) / b := by
    intro d
    induction d with
    | zero => exact fun _ => ⟨fun r c _ _ => rfl, fun r c g1 g2 => by omega⟩
    | succ d ih =>
      intro hd
      obtain ⟨i1, i2⟩ := ih (by omega)
      generalize hT : forN (elmI k m b) d f = T at i1 i2
      have e : forN (elmI k m b) (d + 1) f = forN (elmJ k b (k + 1 + d)) (m - (k + 1)) T := by rw [← hT]; rfl
      obtain ⟨j1, j2⟩ := elm_inner (b := b) (f := T) hm (show k + 1 ≤ k + 1 + d by omega) (show k + 1 + d < m by omega) (m - (k + 1)) (Nat.le_refl _)
      rw [e]
      refine ⟨fun r c hc hn => ?_, fun r c g1 g2 g3 g4 => ?_⟩
      · rw [j1 r c hc (fun g => hn (by omega)), i1 r c hc (fun g => hn (by omega))]
      · by_cases er : r = k + 1 + d
        · subst er
          rw [j2 c g3 (by omega), i1 _ c (by omega) (by omega), i1 k k (by omega) (by omega), i1 _ k (by omega) (by omega), i1 k c (by omega) (by omega)]
        · rw [j1 r c (by omega) (by omega), i2 r c g1 (by omega) g3 g4]
  exact (key (m - (k + 1)) (Nat.le_refl _)).2 i c h1 (by omega) h3 h4
/-- an exact quotient of longs -/
theorem div64 {x y u v z d : Int} (hx : x.natAbs ≤ 400000000) (hy : y.natAbs ≤ 400000000) (hu : u.natAbs ≤ 400000000) (hv : v.natAbs ≤ 400000000) (hz : z.natAbs ≤ 400000000) (hd : d.natAbs ≤ 400000000) (hd0 : d ≠ 0) (he : x * y - u * v = z * d) : (Int64.ofInt x * Int64.ofInt y - Int64.ofInt u * Int64.ofInt v) / Int64.ofInt d = Int64.ofInt z := by
  have h1 : Int64.ofInt x * Int64.ofInt y - Int64.ofInt u * Int64.ofInt v = Int64.ofInt (z * d) := by
    rw [← Int64.ofInt_mul, ← Int64.ofInt_mul, ← Int64.ofInt_sub, he]
  rw [h1]
  have hzd : (z * d).natAbs ≤ 400000000 * 400000000 := by rw [Int.natAbs_mul]; exact Nat.mul_le_mul hz hd
  apply Int64.toInt_inj.mp
  rw [Int64.toInt_div, Int64.toInt_ofInt_of_le (by omega) (by omega), Int64.toInt_ofInt_of_le (by omega) (by omega), Int64.toInt_ofInt_of_le (by omega) (by omega), Int.mul_tdiv_cancel z hd0]
  exact Int.bmod_eq_of_le (by omega) (by omega)
