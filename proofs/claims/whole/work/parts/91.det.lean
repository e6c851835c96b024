/-! determinants, row by row -/
def skp (i r : Nat) : Nat := if r < i then r else r + 1
def sgE {α : Type} [Lean.Grind.CommRing α] (i : Nat) : α := if i % 2 = 0 then 1 else -1
def mnr {α : Type} (R : Nat → Nat → α) (i : Nat) : Nat → Nat → α := fun r c => R (skp i r) (c + 1)
def detG {α : Type} [Lean.Grind.CommRing α] : Nat → (Nat → Nat → α) → α
  | 0, _ => 1
  | m + 1, R => Sg (fun i => sgE i * (R i 0 * detG m (mnr R i))) (m + 1)
def urow {α : Type} (R : Nat → Nat → α) (p : Nat) (x : Nat → α) : Nat → Nat → α := fun r => if r = p then x else R r
theorem skp_ne (i r : Nat) : skp i r ≠ i := by unfold skp; split <;> omega
theorem mnr_urow_same {α : Type} {R : Nat → Nat → α} {p : Nat} {x : Nat → α} : mnr (urow R p x) p = mnr R p := by
  funext r c
  unfold mnr urow
  rw [if_neg (skp_ne p r)]
/-- where row p stands without row i -/
def pos (i p : Nat) : Nat := if p < i then p else p - 1
theorem skp_pos {i p r : Nat} (h : p ≠ i) : skp i r = p ↔ r = pos i p := by
  unfold skp pos
  split <;> split <;> omega
theorem mnr_urow {α : Type} {R : Nat → Nat → α} {p i : Nat} {x : Nat → α} (h : p ≠ i) : mnr (urow R p x) i = urow (mnr R i) (pos i p) (fun c => x (c + 1)) := by
  funext r c
  unfold mnr urow
  by_cases e : skp i r = p
  · rw [if_pos e, if_pos ((skp_pos h).mp e)]
  · rw [if_neg e, if_neg (fun g => e ((skp_pos h).mpr g))]
theorem det_lin {α : Type} [Lean.Grind.CommRing α] : ∀ (m : Nat) (R : Nat → Nat → α) (p : Nat) (x y : Nat → α) (t : α), p < m → detG m (urow R p (fun c => x c + t * y c)) = detG m (urow R p x) + t * detG m (urow R p y)
  | 0, R, p, x, y, t, hp => absurd hp (Nat.not_lt_zero _)
  | m + 1, R, p, x, y, t, hp => by
    simp only [detG]
    rw [← Sg_mul, ← Sg_add]
    refine Sg_congr (m + 1) (fun i hi => ?_)
    try dsimp only
    by_cases e : p = i
    · subst e
      rw [mnr_urow_same, mnr_urow_same, mnr_urow_same]
      have h : ∀ z : Nat → α, urow R p z p 0 = z 0 := fun z => by unfold urow; rw [if_pos rfl]
      rw [h, h, h]
      grind
    · have h : ∀ z : Nat → α, urow R p z i 0 = R i 0 := fun z => by unfold urow; rw [if_neg (fun g => e g.symm)]
      rw [mnr_urow e, mnr_urow e, mnr_urow e, h, h, h]
      have hpos : pos i p < m := by unfold pos; split <;> omega
      have i1 := det_lin m (mnr R i) (pos i p) (fun c => x (c + 1)) (fun c => y (c + 1)) t hpos
      rw [i1]
      grind
theorem sgE_s {α : Type} [Lean.Grind.CommRing α] (i : Nat) : sgE (α := α) (i + 1) = - sgE i := by
  unfold sgE
  rcases Nat.mod_two_eq_zero_or_one i with h | h
  · rw [if_neg (by omega), if_pos h]
  · rw [if_pos (by omega), if_neg (by omega)]; grind
/-- two rows alike, one below the other -/
theorem det_adj {α : Type} [Lean.Grind.CommRing α] : ∀ (m : Nat) (R : Nat → Nat → α) (p : Nat), p + 1 < m → R p = R (p + 1) → detG m R = 0
  | 0, R, p, hp, h => absurd hp (Nat.not_lt_zero _)
  | m + 1, R, p, hp, h => by
    simp only [detG]
    have hm : mnr R p = mnr R (p + 1) := by
      funext r c
      unfold mnr skp
      by_cases e1 : r < p
      · rw [if_pos e1, if_pos (by omega)]
      · by_cases e2 : r = p
        · rw [if_neg e1, if_pos (by omega), e2, h]
        · rw [if_neg e1, if_neg (by omega)]
    have e : Sg (fun i => sgE i * (R i 0 * detG m (mnr R i))) (m + 1) = Sg (fun i => (if i = p then sgE p * (R p 0 * detG m (mnr R p)) else 0) + (if i = p + 1 then - (sgE p * (R p 0 * detG m (mnr R p))) else 0)) (m + 1) := by
      refine Sg_congr (m + 1) (fun i hi => ?_)
      try dsimp only
      by_cases e1 : i = p
      · rw [if_pos e1, if_neg (by omega), e1]; grind
      · by_cases e2 : i = p + 1
        · rw [if_neg e1, if_pos e2, e2, sgE_s, ← h, ← hm]; grind
        · rw [if_neg e1, if_neg e2]
          have hpp : pos i (p + 1) = pos i p + 1 := by unfold pos; split <;> split <;> omega
          have hrow : ∀ q, q ≠ i → mnr R i (pos i q) = fun c => R q (c + 1) := fun q hq => by
            funext c
            unfold mnr
            rw [(skp_pos hq).mpr rfl]
          have hz := det_adj m (mnr R i) (pos i p) (by unfold pos; split <;> omega) (by
            rw [← hpp, hrow p (fun g => e1 g.symm), hrow (p + 1) (fun g => e2 g.symm), h])
          rw [hz]; grind
    rw [e, Sg_add, Sg_one (l := p) (f := fun i => if i = p then sgE p * (R p 0 * detG m (mnr R p)) else 0) _ (by omega) (fun k _ hne => if_neg hne), Sg_one (l := p + 1) (f := fun i => if i = p + 1 then - (sgE p * (R p 0 * detG m (mnr R p))) else 0) _ (by omega) (fun k _ hne => if_neg hne), if_pos rfl, if_pos rfl]
    grind
theorem urow_self {α : Type} {R : Nat → Nat → α} {p : Nat} : urow R p (R p) = R := by
  funext r
  unfold urow
  by_cases e : r = p
  · rw [if_pos e, e]
  · rw [if_neg e]
theorem urow_comm {α : Type} {R : Nat → Nat → α} {p q : Nat} {x y : Nat → α} (h : p ≠ q) : urow (urow R p x) q y = urow (urow R q y) p x := by
  funext r
  unfold urow
  by_cases e1 : r = q
  · have e2 : ¬ r = p := fun g => h (g.symm.trans e1)
    rw [if_pos e1, if_neg e2, if_pos e1]
  · rw [if_neg e1]
    by_cases e2 : r = p
    · rw [if_pos e2, if_pos e2]
    · rw [if_neg e2, if_neg e2, if_neg e1]
theorem det_swap {α : Type} [Lean.Grind.CommRing α] {m : Nat} {R : Nat → Nat → α} {p : Nat} (hp : p + 1 < m) (x y : Nat → α) : detG m (urow (urow R p x) (p + 1) y) = - detG m (urow (urow R p y) (p + 1) x) := by
  have z : ∀ u : Nat → α, detG m (urow (urow R p u) (p + 1) u) = 0 := fun u => det_adj m _ p hp (by
    unfold urow
    rw [if_neg (by omega), if_pos rfl, if_pos rfl])
  have h1 := z (fun c => x c + 1 * y c)
  rw [det_lin m (urow R p (fun c => x c + 1 * y c)) (p + 1) x y 1 hp] at h1
  rw [urow_comm (by omega), urow_comm (y := y) (by omega), det_lin m (urow R (p + 1) x) p x y 1 (by omega), det_lin m (urow R (p + 1) y) p x y 1 (by omega)] at h1
  rw [urow_comm (x := x) (y := x) (by omega : p + 1 ≠ p), urow_comm (x := x) (y := y) (by omega : p + 1 ≠ p), urow_comm (x := y) (y := x) (by omega : p + 1 ≠ p), urow_comm (x := y) (y := y) (by omega : p + 1 ≠ p), z x, z y] at h1
  grind
/-- two rows alike -/
theorem det_alt {α : Type} [Lean.Grind.CommRing α] : ∀ (d m : Nat) (R : Nat → Nat → α) (p : Nat), p + 1 + d < m → R p = R (p + 1 + d) → detG m R = 0
  | 0, m, R, p, hp, h => det_adj m R p hp h
  | d + 1, m, R, p, hp, h => by
    have hq : p + 1 + (d + 1) = (p + 1 + d) + 1 := by omega
    have e : R = urow (urow R (p + 1 + d) (R (p + 1 + d))) (p + 1 + d + 1) (R (p + 1 + d + 1)) := by rw [urow_self, urow_self]
    rw [e, det_swap (by omega)]
    have hz := det_alt d m (urow (urow R (p + 1 + d) (R (p + 1 + d + 1))) (p + 1 + d + 1) (R (p + 1 + d))) p (by omega) (by
      unfold urow
      rw [if_neg (by omega), if_neg (by omega), if_neg (by omega), if_pos rfl, h, hq])
    rw [hz]; grind
/-- a multiple of the first row put to another -/
theorem det_op {α : Type} [Lean.Grind.CommRing α] {m p : Nat} {R : Nat → Nat → α} {t : α} (h0 : 0 < p) (hp : p < m) : detG m (urow R p (fun c => R p c + t * R 0 c)) = detG m R := by
  rw [det_lin m R p (R p) (R 0) t hp, urow_self, det_alt (p - 1) m (urow R p (R 0)) 0 (by omega) (by
    unfold urow
    rw [if_neg (by omega), if_pos (by omega)])]
  grind
/-- the first column cleared -/
def clrR (R : Nat → Nat → Rat) (j : Nat) : Nat → Nat → Rat := fun r c => if 0 < r ∧ r ≤ j then R r c + (- (R r 0 / R 0 0)) * R 0 c else R r c
theorem det_clr {m : Nat} {R : Nat → Nat → Rat} : ∀ j, j < m → detG m (clrR R j) = detG m R
  | 0, hj => by
    have : clrR R 0 = R := by funext r c; unfold clrR; rw [if_neg (by omega)]
    rw [this]
  | j + 1, hj => by
    have i := det_clr (m := m) (R := R) j (by omega)
    have o := det_op (R := clrR R j) (p := j + 1) (t := - (R (j + 1) 0 / R 0 0)) (by omega) hj
    rw [← i, ← o]
    refine congrArg (detG m) ?_
    funext r c
    unfold clrR urow
    by_cases e : r = j + 1
    · rw [if_pos e, e, if_pos ⟨by omega, Nat.le_refl _⟩, if_neg (by omega), if_neg (by omega)]
    · rw [if_neg e]
      try dsimp only
      by_cases c1 : 0 < r ∧ r ≤ j
      · rw [if_pos (show 0 < r ∧ r ≤ j + 1 from ⟨c1.1, by omega⟩), if_pos c1]
      · rw [if_neg (show ¬ (0 < r ∧ r ≤ j + 1) from fun g => c1 ⟨g.1, by omega⟩), if_neg c1]
/-- what is left when the first row and column are taken out -/
def schur (R : Nat → Nat → Rat) : Nat → Nat → Rat := fun r c => R (r + 1) (c + 1) - R (r + 1) 0 * R 0 (c + 1) / R 0 0
theorem det_cong {α : Type} [Lean.Grind.CommRing α] : ∀ (m : Nat) (R T : Nat → Nat → α), (∀ r c, r < m → c < m → R r c = T r c) → detG m R = detG m T
  | 0, R, T, h => rfl
  | m + 1, R, T, h => by
    simp only [detG]
    refine Sg_congr (m + 1) (fun i hi => ?_)
    try dsimp only
    rw [h i 0 hi (by omega), det_cong m (mnr R i) (mnr T i) (fun r c hr hc => by
      unfold mnr
      exact h _ _ (by unfold skp; split <;> omega) (by omega))]
theorem det_schur {m : Nat} {R : Nat → Nat → Rat} (h0 : ¬ R 0 0 = 0) : detG (m + 1) R = R 0 0 * detG m (schur R) := by
  rw [← det_clr m (by omega)]
  have e : detG (m + 1) (clrR R m) = Sg (fun i => sgE i * (clrR R m i 0 * detG m (mnr (clrR R m) i))) (m + 1) := rfl
  rw [e, Sg_one (l := 0) _ (by omega) (fun i hi hne => ?_)]
  · have e2 : clrR R m 0 0 = R 0 0 := by unfold clrR; rw [if_neg (by omega)]
    have e3 : detG m (mnr (clrR R m) 0) = detG m (schur R) := by
      refine det_cong m _ _ (fun r c hr hc => ?_)
      have hk : skp 0 r = r + 1 := by unfold skp; rw [if_neg (by omega)]
      unfold mnr
      rw [hk]
      unfold clrR schur
      rw [if_pos (show 0 < r + 1 ∧ r + 1 ≤ m from ⟨by omega, by omega⟩)]
      grind
    rw [e2, e3]
    show sgE 0 * _ = _
    rw [show sgE (α := Rat) 0 = 1 from rfl]
    grind
  · have e2 : clrR R m i 0 = 0 := by
      unfold clrR
      rw [if_pos ⟨by omega, by omega⟩]
      grind
    rw [e2]; grind
