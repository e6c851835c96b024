/-! the reference's elimination counts trees -/
theorem q_sq {a : Rat} : 0 ≤ a * a := by
  rcases Rat.le_total (a := 0) (b := a) with h | h
  · exact Rat.mul_nonneg h h
  · have h2 : 0 ≤ - a := by grind
    have := Rat.mul_nonneg h2 h2
    grind
theorem q_mle {a b c d : Rat} (ha : 0 ≤ a) (hab : a ≤ b) (hc : 0 ≤ c) (hcd : c ≤ d) : a * c ≤ b * d := by
  have h1 : a * c ≤ b * c := Rat.mul_le_mul_of_nonneg_right hab hc
  have h2 : b * c ≤ b * d := Rat.mul_le_mul_of_nonneg_left hcd (Rat.le_trans ha hab)
  exact Rat.le_trans h1 h2
theorem wS_one_le {w : Nat → Nat → Rat} (hnn : ∀ u v, 0 ≤ w u v) {r B x : Nat} (hB : B < 1024) (hx : B.testBit x = true) : w r x ≤ wS w r B := by
  rw [wS_split hB (bit_lt10 hB hx) hx]
  have := wS_nn hnn r (sd B (2 ^ x))
  grind
theorem lap_le {v : Nat → Nat} {w : Nat → Nat → Rat} {S m : Nat} (hS : S < 1024) (hw : ∀ a b, w a b = w b a) (hnn : ∀ a b, 0 ≤ w a b) (hv : ∀ j, j < m → S.testBit (v j) = true) (hinj : ∀ i j, i < m → j < m → v i = v j → i = j) (h9 : ∀ u, S.testBit u = true → wS w u (sd S (2 ^ u)) ≤ 9) : ∀ k, k ≤ m → (∀ i, i < k → ¬ pvK v w S i = 0) → ∀ u, (outK v w S k).2.testBit u = true → wS (outK v w S k).1 u (sd (outK v w S k).2 (2 ^ u)) ≤ 9
  | 0, _, _, u, hu => h9 u hu
  | k + 1, hk, hp, u, hu => by
    obtain ⟨h1, h2⟩ := out_set (v := v) (w := w) hS k
    have hin : (outK v w S k).2.testBit (v k) = true := (h2 _).mpr ⟨hv k (by omega), fun i hi g => by have := hinj k i (by omega) (by omega) g; omega⟩
    have hu1 : (sd (outK v w S k).2 (2 ^ v k)).testBit u = true := hu
    obtain ⟨hu2, hu3⟩ := (sd_t h1).mp hu1
    have huk : u ≠ v k := fun g => by rw [g, pow_t.mpr rfl] at hu3; cases hu3
    have hD := hp k (by omega)
    have h := lap_mesh (out_sym hw k) h1 (bit_lt10 hS (hv k (by omega))) hin hu2 hu2 huk huk hD
    have ih := lap_le hS hw hnn hv hinj h9 k (by omega) (fun i hi => hp i (by omega)) u hu2
    have e1 : Lap (outK v w S k).1 (outK v w S k).2 u u = wS (outK v w S k).1 u (sd (outK v w S k).2 (2 ^ u)) := by unfold Lap; rw [if_pos rfl]
    have e2 : Lap (outK v w S k).1 (outK v w S k).2 (v k) (v k) = pvK v w S k := by unfold Lap pvK; rw [if_pos rfl]
    have e3 : Lap (outK v w S k).1 (outK v w S k).2 u (v k) = Lap (outK v w S k).1 (outK v w S k).2 (v k) u := by
      unfold Lap
      rw [if_neg huk, if_neg (fun g => huk g.symm), out_sym hw k]
    have e4 : Lap (mesh (outK v w S k).1 (v k) (wS (outK v w S k).1 (v k) (sd (outK v w S k).2 (2 ^ v k)))) (sd (outK v w S k).2 (2 ^ v k)) u u = wS (outK v w S (k + 1)).1 u (sd (outK v w S (k + 1)).2 (2 ^ u)) := by unfold Lap; rw [if_pos rfl]; rfl
    rw [e4, e1, e2, e3] at h
    have hq : 0 ≤ Lap (outK v w S k).1 (outK v w S k).2 (v k) u * Lap (outK v w S k).1 (outK v w S k).2 (v k) u / pvK v w S k := q_div q_sq (wS_nn (out_nn hnn k) _ _)
    rw [h]
    grind
theorem pr_bd {v : Nat → Nat} {w : Nat → Nat → Rat} {S m : Nat} (hS : S < 1024) (hw : ∀ a b, w a b = w b a) (hnn : ∀ a b, 0 ≤ w a b) (hv : ∀ j, j < m → S.testBit (v j) = true) (hinj : ∀ i j, i < m → j < m → v i = v j → i = j) (h9 : ∀ u, S.testBit u = true → wS w u (sd S (2 ^ u)) ≤ 9) : ∀ k, k ≤ m → (∀ i, i < k → ¬ pvK v w S i = 0) → 0 < prK v w S k ∧ prK v w S k ≤ 9 ^ k
  | 0, _, _ => by
    show (0 : Rat) < 1 ∧ (1 : Rat) ≤ 9 ^ 0
    decide
  | k + 1, hk, hp => by
    have ih := pr_bd hS hw hnn hv hinj h9 k (by omega) (fun i hi => hp i (by omega))
    obtain ⟨h1, h2⟩ := out_set (v := v) (w := w) hS k
    have hin : (outK v w S k).2.testBit (v k) = true := (h2 _).mpr ⟨hv k (by omega), fun i hi g => by have := hinj k i (by omega) (by omega) g; omega⟩
    have hle : pvK v w S k ≤ 9 := lap_le hS hw hnn hv hinj h9 k (by omega) (fun i hi => hp i (by omega)) _ hin
    have hpn : 0 ≤ pvK v w S k := wS_nn (out_nn hnn k) _ _
    have hpp : 0 < pvK v w S k := q_pos hpn (hp k (by omega))
    show 0 < prK v w S k * pvK v w S k ∧ prK v w S k * pvK v w S k ≤ 9 ^ (k + 1)
    refine ⟨Rat.mul_pos ih.1 hpp, ?_⟩
    rw [Rat.pow_succ]
    exact q_mle (Rat.le_of_lt ih.1) ih.2 hpn hle
theorem pow9 (k : Nat) (hk : k ≤ 9) : ((9 : Rat) ^ k) ≤ ((387420489 : Int) : Rat) ∧ ((9 : Rat) ^ k) * 1 = ((9 ^ k : Int) : Rat) := by
  have h : ∀ k, k < 10 → ((9 : Rat) ^ k) ≤ ((387420489 : Int) : Rat) ∧ ((9 : Rat) ^ k) * 1 = ((9 ^ k : Int) : Rat) := by decide +kernel
  exact h k (by omega)
theorem int_bd {z : Int} {q : Rat} (h : (z : Rat) = q) (h1 : q ≤ ((387420489 : Int) : Rat)) (h2 : - ((387420489 : Int) : Rat) ≤ q) : z.natAbs ≤ 400000000 := by
  rw [← h] at h1 h2
  have a := Rat.intCast_le_intCast.mp h1
  have h3 : (((-387420489 : Int)) : Rat) ≤ (z : Rat) := by
    have : (((-387420489 : Int)) : Rat) = - ((387420489 : Int) : Rat) := by rw [← Rat.intCast_neg]
    rw [this]; exact h2
  have b := Rat.intCast_le_intCast.mp h3
  omega
/-- how large an entry is -/
theorem ent_bd {v : Nat → Nat} {w : Nat → Nat → Rat} {S m : Nat} (hm : m ≤ 9) (hS : S < 1024) (hw : ∀ a b, w a b = w b a) (hnn : ∀ a b, 0 ≤ w a b) (hv : ∀ j, j < m → S.testBit (v j) = true) (hinj : ∀ i j, i < m → j < m → v i = v j → i = j) (h9 : ∀ u, S.testBit u = true → wS w u (sd S (2 ^ u)) ≤ 9) {k : Nat} (hk : k < m) (hp : ∀ i, i < k → ¬ pvK v w S i = 0) {r c : Nat} (hr : k + r < m) (hc : k + c < m) {z : Int} (hz : (z : Rat) = prK v w S k * sqK v w S k r c) : z.natAbs ≤ 400000000 := by
  obtain ⟨p1, p2⟩ := pr_bd hS hw hnn hv hinj h9 k (by omega) hp
  obtain ⟨h1, h2⟩ := out_set (v := v) (w := w) hS k
  have hin : ∀ j, k ≤ j → j < m → (outK v w S k).2.testBit (v j) = true := fun j hj hjm => (h2 _).mpr ⟨hv j hjm, fun i hi g => by have := hinj j i hjm (by omega) g; omega⟩
  have hd := lap_le hS hw hnn hv hinj h9 k (by omega) hp (v (k + r)) (hin _ (by omega) hr)
  have hdn := wS_nn (out_nn (v := v) (S := S) hnn k) (v (k + r)) (sd (outK v w S k).2 (2 ^ v (k + r)))
  have hs9 : sqK v w S k r c ≤ 9 ∧ -9 ≤ sqK v w S k r c := by
    unfold sqK Lap
    by_cases e : v (k + r) = v (k + c)
    · rw [if_pos e]
      constructor
      · exact hd
      · grind
    · rw [if_neg e]
      have hx : (sd (outK v w S k).2 (2 ^ v (k + r))).testBit (v (k + c)) = true := (sd_t h1).mpr ⟨hin _ (by omega) hc, Bool.eq_false_iff.mpr (fun g => e (pow_t.mp g).symm)⟩
      have h3 := wS_one_le (out_nn (v := v) (S := S) hnn k) (r := v (k + r)) (sd_lt h1) hx
      have h4 := out_nn (v := v) (S := S) hnn k (v (k + r)) (v (k + c))
      constructor
      · grind
      · grind
  have hb := (pow9 (k + 1) (by omega)).1
  rw [Rat.pow_succ] at hb
  have hpn := Rat.le_of_lt p1
  have u1 : prK v w S k * sqK v w S k r c ≤ 9 ^ k * 9 := by
    have a1 : prK v w S k * sqK v w S k r c ≤ prK v w S k * 9 := Rat.mul_le_mul_of_nonneg_left hs9.1 hpn
    have a2 : prK v w S k * 9 ≤ 9 ^ k * 9 := Rat.mul_le_mul_of_nonneg_right p2 (by decide)
    exact Rat.le_trans a1 a2
  have u2 : - (9 ^ k * 9) ≤ prK v w S k * sqK v w S k r c := by
    have a1 : prK v w S k * (-9) ≤ prK v w S k * sqK v w S k r c := Rat.mul_le_mul_of_nonneg_left hs9.2 hpn
    have a2 : prK v w S k * 9 ≤ 9 ^ k * 9 := Rat.mul_le_mul_of_nonneg_right p2 (by decide)
    grind
  exact int_bd hz (Rat.le_trans u1 hb) (by grind)
