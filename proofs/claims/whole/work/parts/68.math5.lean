/-! sums in any commutative ring, over numbers and over the subsets of a set -/
def Sg {α : Type} [Lean.Grind.CommRing α] (f : Nat → α) (n : Nat) : α := forN (fun k a => a + f k) n 0
theorem Sg_s {α : Type} [Lean.Grind.CommRing α] (f : Nat → α) (n : Nat) : Sg f (n + 1) = Sg f n + f n := rfl
theorem Sg_from {α : Type} [Lean.Grind.CommRing α] (f : Nat → α) (a : α) : ∀ n, forN (fun k a => a + f k) n a = a + Sg f n
  | 0 => by show a = a + 0; grind
  | n + 1 => by
    show forN (fun k a => a + f k) n a + f n = a + (Sg f n + f n)
    rw [Sg_from f a n]; grind
theorem Sg_congr {α : Type} [Lean.Grind.CommRing α] {f g : Nat → α} : ∀ n, (∀ k, k < n → f k = g k) → Sg f n = Sg g n
  | 0, _ => rfl
  | n + 1, h => by rw [Sg_s, Sg_s, Sg_congr n (fun k hk => h k (by omega)), h n (by omega)]
theorem Sg_add {α : Type} [Lean.Grind.CommRing α] {f g : Nat → α} : ∀ n, Sg (fun k => f k + g k) n = Sg f n + Sg g n
  | 0 => by show (0 : α) = 0 + 0; grind
  | n + 1 => by rw [Sg_s, Sg_s, Sg_s, Sg_add n]; grind
theorem Sg_0 {α : Type} [Lean.Grind.CommRing α] : ∀ n, Sg (fun _ => (0 : α)) n = 0
  | 0 => rfl
  | n + 1 => by rw [Sg_s, Sg_0 n]; grind
theorem Sg_mul {α : Type} [Lean.Grind.CommRing α] {f : Nat → α} {c : α} : ∀ n, Sg (fun k => c * f k) n = c * Sg f n
  | 0 => by show (0 : α) = c * 0; grind
  | n + 1 => by rw [Sg_s, Sg_s, Sg_mul n]; grind
theorem Sg_swap {α : Type} [Lean.Grind.CommRing α] {a : Nat → Nat → α} {m : Nat} : ∀ n, Sg (fun i => Sg (fun j => a i j) m) n = Sg (fun j => Sg (fun i => a i j) n) m
  | 0 => (Sg_0 m).symm
  | n + 1 => by
    rw [Sg_s, Sg_swap n, ← Sg_add]
    exact Sg_congr m (fun j _ => rfl)
theorem Sg_ext {α : Type} [Lean.Grind.CommRing α] {f : Nat → α} {n : Nat} : ∀ m, n ≤ m → (∀ k, n ≤ k → k < m → f k = 0) → Sg f m = Sg f n
  | 0, h, _ => by rw [show n = 0 by omega]
  | m + 1, h, hf => by
    by_cases e : n = m + 1
    · rw [e]
    · rw [Sg_s, Sg_ext m (by omega) (fun k h1 h2 => hf k h1 (by omega)), hf m (by omega) (by omega)]
      grind
/-- one term alone -/
theorem Sg_one {α : Type} [Lean.Grind.CommRing α] {f : Nat → α} {l : Nat} : ∀ n, l < n → (∀ k, k < n → k ≠ l → f k = 0) → Sg f n = f l
  | 0, h, _ => absurd h (Nat.not_lt_zero _)
  | n + 1, h, hf => by
    rw [Sg_s]
    by_cases e : l = n
    · subst e
      rw [Sg_congr l (g := fun _ => 0) (fun k hk => hf k (by omega) (by omega)), Sg_0]
      grind
    · rw [Sg_one n (by omega) (fun k hk hne => hf k (by omega) hne), hf n (by omega) (fun h => e h.symm)]
      grind
/-- the first term taken off -/
theorem Sg_first {α : Type} [Lean.Grind.CommRing α] {f : Nat → α} : ∀ n, Sg f (n + 1) = f 0 + Sg (fun k => f (k + 1)) n
  | 0 => by show (0 : α) + f 0 = f 0 + 0; grind
  | n + 1 => by rw [Sg_s, Sg_first n, Sg_s]; grind
theorem Sg_rev {α : Type} [Lean.Grind.CommRing α] {f : Nat → α} : ∀ n, Sg (fun k => f (n - 1 - k)) n = Sg f n
  | 0 => rfl
  | n + 1 => by
    have this : Sg (fun k => f (n + 1 - 1 - (k + 1))) n = Sg (fun k => f (n - 1 - k)) n := Sg_congr n (fun k hk => by rw [show n + 1 - 1 - (k + 1) = n - 1 - k by omega])
    rw [Sg_first, Sg_s, this, Sg_rev n]
    show f (n + 1 - 1 - 0) + _ = _
    rw [show n + 1 - 1 - 0 = n by omega]
    grind
/-- a sum over other numbers, one for one -/
theorem Sg_bij {α : Type} [Lean.Grind.CommRing α] {f : Nat → α} {n : Nat} {p : Nat → Nat} (hp : ∀ k, k < n → p k < n) (hpp : ∀ k, k < n → p (p k) = k) : Sg (fun k => f (p k)) n = Sg f n := by
  have h1 : Sg (fun k => f (p k)) n = Sg (fun k => Sg (fun j => if j = p k then f j else 0) n) n := Sg_congr n (fun k hk => by
    rw [Sg_one (l := p k) n (hp k hk) (fun j _ hne => if_neg hne), if_pos rfl])
  rw [h1, Sg_swap]
  refine Sg_congr n (fun j hj => ?_)
  rw [Sg_one (l := p j) n (hp j hj) (fun k hk hne => if_neg (fun e => hne (by rw [e, hpp k hk]))), if_pos (by rw [hpp j hj])]
theorem dn_max : ∀ (w s t0 t : Nat), s < 2 ^ w → t0 &&& s = t0 → t &&& s = t → t < t0 → t ≤ (t0 - 1) &&& s
  | 0, s, t0, t, hs, h0, ht, hlt => by
    have : s = 0 := by omega
    subst this
    simp at h0; omega
  | w + 1, s, t0, t, hs, h0, ht, hlt => by
    have e2 : 2 ^ (w + 1) = 2 * 2 ^ w := by rw [Nat.pow_succ]; omega
    have a1 := and_half t0 s
    have a2 := and_odd t0 s
    rw [h0] at a1 a2
    have b1 := and_half t s
    have b2 := and_odd t s
    rw [ht] at b1 b2
    have c1 := and_half (t0 - 1) s
    have c2 := and_odd (t0 - 1) s
    generalize hX : (t0 - 1) &&& s = X at c1 c2
    rcases Nat.mod_two_eq_zero_or_one t0 with g | g
    · have e : (t0 - 1) / 2 = t0 / 2 - 1 := by omega
      have ih := dn_max w (s / 2) (t0 / 2) (t / 2) (by omega) a1.symm b1.symm (by omega)
      rw [e] at c1
      rw [← c1] at ih
      have e3 : (t0 - 1) % 2 = 1 := by omega
      rw [e3] at c2
      rcases Nat.mod_two_eq_zero_or_one s with gs | gs
      · rw [gs] at c2 b2; simp at c2 b2; omega
      · rw [gs] at c2 b2; simp at c2 b2; omega
    · have e : (t0 - 1) / 2 = t0 / 2 := by omega
      rw [e, ← a1] at c1
      omega

/-! sums over the subsets of a set -/
/-- over all t within s -/
def Su {α : Type} [Lean.Grind.CommRing α] (s : Nat) (f : Nat → α) : α := Sg (fun t => if t &&& s = t then f t else 0) 1024
theorem Su_congr {α : Type} [Lean.Grind.CommRing α] {s : Nat} {f g : Nat → α} (h : ∀ t, t < 1024 → t &&& s = t → f t = g t) : Su s f = Su s g := Sg_congr 1024 (fun t ht => by
  by_cases e : t &&& s = t
  · rw [if_pos e, if_pos e, h t ht e]
  · rw [if_neg e, if_neg e])
theorem Su_add {α : Type} [Lean.Grind.CommRing α] {s : Nat} {f g : Nat → α} : Su s (fun t => f t + g t) = Su s f + Su s g := by
  unfold Su
  rw [← Sg_add]
  exact Sg_congr 1024 (fun t _ => by split <;> grind)
theorem Su_mul {α : Type} [Lean.Grind.CommRing α] {s : Nat} {f : Nat → α} {c : α} : Su s (fun t => c * f t) = c * Su s f := by
  unfold Su
  rw [← Sg_mul]
  exact Sg_congr 1024 (fun t _ => by split <;> grind)
theorem Su_0 {α : Type} [Lean.Grind.CommRing α] {s : Nat} : Su s (fun _ => (0 : α)) = 0 := by
  unfold Su
  rw [Sg_congr 1024 (g := fun _ => 0) (fun t _ => by split <;> rfl), Sg_0]
/-- the sum goes over the numbers up to s alone -/
theorem Su_le {α : Type} [Lean.Grind.CommRing α] {s N : Nat} {f : Nat → α} (hs : s < N) (hN : N ≤ 1024) : Su s f = Sg (fun t => if t &&& s = t then f t else 0) N := Sg_ext 1024 hN (fun k h1 h2 => if_neg (fun e => by
  have : k &&& s ≤ s := Nat.and_le_right
  omega))
/-- the loop through the subsets t that are not empty, from t0 down, adds them up -/
theorem subA_sum {α : Type} [Lean.Grind.CommRing α] {s : Nat} (hs : s < 1024) {f : Nat → α} : ∀ (t0 : Nat) (a : α), t0 &&& s = t0 → subA (fun t a => a + f t) s t0 a = a + Sg (fun t => if t ≠ 0 ∧ t &&& s = t ∧ t ≤ t0 then f t else 0) 1024 := by
  refine wh_ind (P := fun t0 => ∀ a : α, t0 &&& s = t0 → subA (fun t a => a + f t) s t0 a = a + Sg (fun t => if t ≠ 0 ∧ t &&& s = t ∧ t ≤ t0 then f t else 0) 1024) (fun t => t) (fun t0 ih a h0 => ?_)
  by_cases e : t0 = 0
  · subst e
    rw [subA_0, Sg_congr 1024 (g := fun _ => 0) (fun t _ => if_neg (fun h => h.1 (by omega))), Sg_0]
    grind
  · have hle : (t0 - 1) &&& s ≤ t0 - 1 := Nat.and_le_left
    have hl2 : t0 ≤ s := by rw [← h0]; exact Nat.and_le_right
    rw [subA_s (by omega) e, ih ((t0 - 1) &&& s) (by omega) _ (by rw [Nat.and_assoc, Nat.and_self])]
    have h1 : Sg (fun t => if t ≠ 0 ∧ t &&& s = t ∧ t ≤ t0 then f t else 0) 1024 = Sg (fun t => (if t ≠ 0 ∧ t &&& s = t ∧ t ≤ ((t0 - 1) &&& s) then f t else 0) + (if t = t0 then f t else 0)) 1024 := by
      refine Sg_congr 1024 (fun t ht => ?_)
      by_cases e1 : t = t0
      · subst e1
        rw [if_pos ⟨e, h0, Nat.le_refl _⟩, if_neg (fun h => by omega), if_pos rfl]
        grind
      · rw [if_neg e1]
        by_cases e2 : t ≠ 0 ∧ t &&& s = t ∧ t ≤ (t0 - 1) &&& s
        · rw [if_pos e2, if_pos ⟨e2.1, e2.2.1, by omega⟩]; grind
        · rw [if_neg e2, if_neg (fun h => e2 ⟨h.1, h.2.1, dn_max 10 s t0 t hs h0 h.2.1 (by omega)⟩)]; grind
    rw [h1, Sg_add, Sg_one (l := t0) (f := fun t => if t = t0 then f t else 0) 1024 (by omega) (fun k _ hne => if_neg hne), if_pos rfl]
    grind
/-- all subsets, the empty one apart -/
theorem subA_all {α : Type} [Lean.Grind.CommRing α] {s : Nat} (hs : s < 1024) {f : Nat → α} (a : α) : subA (fun t a => a + f t) s s a + f 0 = a + Su s f := by
  rw [subA_sum hs s a (Nat.and_self s)]
  have h1 : Su s f = Sg (fun t => (if t ≠ 0 ∧ t &&& s = t ∧ t ≤ s then f t else 0) + (if t = 0 then f t else 0)) 1024 := by
    refine Sg_congr 1024 (fun t ht => ?_)
    by_cases e : t &&& s = t
    · have hts : t ≤ s := by rw [← e]; exact Nat.and_le_right
      rw [if_pos e]
      by_cases e0 : t = 0
      · rw [if_neg (fun h => h.1 e0), if_pos e0]; grind
      · rw [if_pos ⟨e0, e, hts⟩, if_neg e0]; grind
    · rw [if_neg e, if_neg (fun h => e h.2.1), if_neg (fun e0 => e (by rw [e0]; exact Nat.zero_and _))]; grind
  rw [h1, Sg_add, Sg_one (l := 0) (f := fun t => if t = 0 then f t else 0) 1024 (by omega) (fun k _ hne => if_neg hne), if_pos rfl]
  grind
theorem subN_A {f : Nat → Int64 → Int64} {s : Nat} : ∀ t a, subN f s t a = subA f s t a := by
  intro t a
  unfold subN subA
  suffices h : ∀ k t a, subF f s k t a = subAF f s k t a from h _ _ _
  intro k
  induction k with
  | zero => intro t a; rfl
  | succ k ih => intro t a; simp only [subF, subAF]; rw [ih]
/-- t against what is left of s -/
theorem Su_compl {α : Type} [Lean.Grind.CommRing α] {s : Nat} (hs : s < 1024) {f : Nat → α} : Su s (fun t => f (sd s t)) = Su s f := by
  unfold Su
  have hsub : ∀ t, t &&& s = t → sd s t &&& s = sd s t ∧ sd s (sd s t) = t := by
    intro t ht
    have ht' := subS_of ht
    refine ⟨subS_and (subS_sd hs), eq_of_bits (fun i => ?_)⟩
    rw [sd_t hs]
    constructor
    · rintro ⟨h1, h2⟩
      cases hb : t.testBit i with
      | true => rfl
      | false => rw [(sd_t hs).mpr ⟨h1, hb⟩] at h2; cases h2
    · intro h
      refine ⟨ht' i h, ?_⟩
      cases hb : (sd s t).testBit i with
      | false => rfl
      | true => rw [((sd_t hs).mp hb).2] at h; cases h
  have hp : ∀ t, t < 1024 → (if t &&& s = t then sd s t else t) < 1024 := fun t ht => by
    split
    · exact sd_lt hs
    · exact ht
  rw [← Sg_bij (f := fun t => if t &&& s = t then f t else 0) (p := fun t => if t &&& s = t then sd s t else t) hp (fun t ht => by
    by_cases e : t &&& s = t
    · rw [if_pos e, if_pos (hsub t e).1, (hsub t e).2]
    · rw [if_neg e, if_neg e])]
  refine Sg_congr 1024 (fun t ht => ?_)
  by_cases e : t &&& s = t
  · rw [if_pos e, if_pos e, if_pos (hsub t e).1]
  · rw [if_neg e, if_neg e, if_neg e]
