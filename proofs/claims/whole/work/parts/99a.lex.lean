/-! seeking rows by rising vertices: the first found is the least -/
def agK (k : Nat) (x y : Nat → Nat) : Prop := ∀ j, j < k → x j = y j
def lexL (n : Nat) (x y : Nat → Nat) : Prop := agK n x y ∨ ∃ p, p < n ∧ agK p x y ∧ x p < y p
/-- the least of the rows V that begin with the first k of r, from v on at place k -/
def LLk (n : Nat) (V : (Nat → Nat) → Prop) (k v : Nat) (r x : Nat → Nat) : Prop := V x ∧ agK k r x ∧ (k < n → v ≤ x k) ∧ ∀ y, V y → agK k r y → (k < n → v ≤ y k) → lexL n x y
theorem ag_up {k v : Nat} {r y : Nat → Nat} (h : agK k r y) (hv : y k = v) : agK (k + 1) (upN r k v) y := by
  intro j hj
  unfold upN
  by_cases e : j = k
  · rw [if_pos e, e, hv]
  · rw [if_neg e]; exact h j (by omega)
theorem ag_dn {k v : Nat} {r y : Nat → Nat} (h : agK (k + 1) (upN r k v) y) : agK k r y ∧ y k = v := by
  refine ⟨fun j hj => ?_, ?_⟩
  · have := h j (by omega)
    unfold upN at this
    rw [if_neg (by omega)] at this
    exact this
  · have := h k (by omega)
    unfold upN at this
    rw [if_pos rfl] at this
    exact this.symm
theorem lex_first {n k : Nat} {x y : Nat → Nat} (hk : k < n) (h : agK k x y) (hlt : x k < y k) : lexL n x y := Or.inr ⟨k, hk, h, hlt⟩
theorem lex_uniq {n : Nat} {x y : Nat → Nat} (h1 : lexL n x y) (h2 : lexL n y x) : agK n x y := by
  rcases h1 with h1 | ⟨p, p1, p2, p3⟩
  · exact h1
  · rcases h2 with h2 | ⟨q, q1, q2, q3⟩
    · exact fun j hj => (h2 j hj).symm
    · rcases Nat.lt_trichotomy p q with g | g | g
      · have := q2 p g; omega
      · subst g; omega
      · have := p2 q g; omega
theorem LL_uniq {n : Nat} {V : (Nat → Nat) → Prop} {r r' x y : Nat → Nat} (h1 : LLk n V 0 0 r x) (h2 : LLk n V 0 0 r' y) : agK n x y := lex_uniq (h1.2.2.2 y h2.1 (fun j hj => absurd hj (Nat.not_lt_zero _)) (fun _ => Nat.zero_le _)) (h2.2.2.2 x h1.1 (fun j hj => absurd hj (Nat.not_lt_zero _)) (fun _ => Nat.zero_le _))
/-- one place of the reference's search -/
theorem bsV_ok {n k : Nat} {V : (Nat → Nat) → Prop} {r : Nat → Nat} {ok : Nat → Bool} {rc : Nat → Option (Nat → Nat)} (hk : k < n) (hVn : ∀ y, V y → ∀ j, j < n → y j < n) (hok : ∀ y, V y → agK k r y → ok (y k) = true) (hs : ∀ v x, v < n → ok v = true → rc v = some x → LLk n V (k + 1) 0 (upN r k v) x) (hn : ∀ v, v < n → ok v = true → rc v = none → ∀ y, V y → ¬ agK (k + 1) (upN r k v) y) : ∀ m v, v + m = n → (∀ x, bsV ok rc m v = some x → LLk n V k v r x) ∧ (bsV ok rc m v = none → ∀ y, V y → agK k r y → y k < v) := by
  intro m
  induction m with
  | zero =>
    intro v hv
    refine ⟨fun x h => (by cases h), fun _ y hy _ => ?_⟩
    have := hVn y hy k hk
    omega
  | succ m ih =>
    intro v hv
    obtain ⟨i1, i2⟩ := ih (v + 1) (by omega)
    -- what goes on behind v
    have hgo : (∀ y, V y → agK k r y → y k ≠ v) → (∀ x, bsV ok rc m (v + 1) = some x → LLk n V k v r x) ∧ (bsV ok rc m (v + 1) = none → ∀ y, V y → agK k r y → y k < v) := by
      intro hno
      refine ⟨fun x hx => ?_, fun hx y hy ha => ?_⟩
      · obtain ⟨a, b, c, d⟩ := i1 x hx
        refine ⟨a, b, fun h => by have := c h; omega, fun y hy ha hle => d y hy ha (fun h => ?_)⟩
        have h1 := hle h
        have h2 := hno y hy ha
        omega
      · have h1 := i2 hx y hy ha
        have h2 := hno y hy ha
        omega
    cases hv2 : ok v with
    | false =>
      rw [bsV_no hv2]
      exact hgo (fun y hy ha g => by have := hok y hy ha; rw [g, hv2] at this; cases this)
    | true =>
      cases hr : rc v with
      | some x =>
        rw [bsV_some hv2 hr]
        refine ⟨fun x' hx' => ?_, fun h => (by cases h)⟩
        cases hx'
        obtain ⟨a, b, c, d⟩ := hs v x (by omega) hv2 hr
        obtain ⟨b1, b2⟩ := ag_dn b
        refine ⟨a, b1, fun _ => by omega, fun y hy ha hle => ?_⟩
        have h1 := hle hk
        by_cases e : y k = v
        · exact d y hy (ag_up ha e) (fun _ => Nat.zero_le _)
        · exact lex_first hk (fun j hj => by rw [← b1 j hj, ha j hj]) (by omega)
      | none =>
        rw [bsV_none hv2 hr]
        exact hgo (fun y hy ha g => hn v (by omega) hv2 hr y hy (ag_up ha g))
/-- one place of the class's search: the row is written over as it goes -/
theorem bandV_ok {n k : Nat} {V : (Nat → Nat) → Prop} {r : Nat → Nat} {ok : Nat → Bool} {room : (Nat → Nat) → Nat → Bool} {rc : Nat → (Nat → Nat) → Bool × (Nat → Nat)} (hk : k < n) (hVn : ∀ y, V y → ∀ j, j < n → y j < n) (hok : ∀ y, V y → agK k r y → ok (y k) = true) (hroom : ∀ y q, V y → agK k r y → agK (k + 1) q y → room q (y k) = true) (hrc : ∀ v q, v < n → ok v = true → agK k r q → q k = v → room q v = true → ((rc v q).1 = true → LLk n V (k + 1) 0 q (rc v q).2) ∧ ((rc v q).1 = false → agK (k + 1) q (rc v q).2 ∧ ∀ y, V y → ¬ agK (k + 1) q y)) : ∀ m v q, v + m = n → agK k r q → ((bandV ok room rc k m v q).1 = true → LLk n V k v r (bandV ok room rc k m v q).2) ∧ ((bandV ok room rc k m v q).1 = false → agK k r (bandV ok room rc k m v q).2 ∧ ∀ y, V y → agK k r y → y k < v) := by
  intro m
  induction m with
  | zero =>
    intro v q hv hq
    refine ⟨fun h => (by cases h), fun _ => ⟨hq, fun y hy _ => ?_⟩⟩
    have := hVn y hy k hk
    omega
  | succ m ih =>
    intro v q hv hq
    have hgo : ∀ q', agK k r q' → (∀ y, V y → agK k r y → y k ≠ v) → ((bandV ok room rc k m (v + 1) q').1 = true → LLk n V k v r (bandV ok room rc k m (v + 1) q').2) ∧ ((bandV ok room rc k m (v + 1) q').1 = false → agK k r (bandV ok room rc k m (v + 1) q').2 ∧ ∀ y, V y → agK k r y → y k < v) := by
      intro q' hq' hno
      obtain ⟨i1, i2⟩ := ih (v + 1) q' (by omega) hq'
      refine ⟨fun hx => ?_, fun hx => ⟨(i2 hx).1, fun y hy ha => ?_⟩⟩
      · obtain ⟨a, b, c, d⟩ := i1 hx
        refine ⟨a, b, fun h => by have := c h; omega, fun y hy ha hle => d y hy ha (fun h => ?_)⟩
        have h1 := hle h
        have h2 := hno y hy ha
        omega
      · have h1 := (i2 hx).2 y hy ha
        have h2 := hno y hy ha
        omega
    have hqu : agK k r (upN q k v) := fun j hj => by unfold upN; rw [if_neg (by omega)]; exact hq j hj
    have hqk : upN q k v k = v := by unfold upN; rw [if_pos rfl]
    unfold bandV
    by_cases hv2 : ok v = true
    · rw [if_pos hv2]
      by_cases hrm : room (upN q k v) v = true
      · rw [if_pos hrm]
        obtain ⟨c1, c2⟩ := hrc v (upN q k v) (by omega) hv2 hqu hqk hrm
        by_cases hx : (rc v (upN q k v)).1 = true
        · rw [if_pos hx]
          refine ⟨fun _ => ?_, fun h => (by cases h)⟩
          obtain ⟨a, b, c, d⟩ := c1 hx
          have b2 : (rc v (upN q k v)).2 k = v := by rw [← b k (by omega), hqk]
          have b1 : agK k r (rc v (upN q k v)).2 := fun j hj => by rw [hqu j hj]; exact b j (by omega)
          refine ⟨a, b1, fun _ => by show v ≤ (rc v (upN q k v)).2 k; omega, fun y hy ha hle => ?_⟩
          have h1 := hle hk
          by_cases e : y k = v
          · refine d y hy (fun j hj => ?_) (fun _ => Nat.zero_le _)
            by_cases ej : j = k
            · rw [ej, hqk, e]
            · rw [← hqu j (by omega)]; exact ha j (by omega)
          · exact lex_first hk (fun j hj => by rw [← b1 j hj, ha j hj]) (by show (rc v (upN q k v)).2 k < y k; omega)
        · rw [if_neg hx]
          obtain ⟨d1, d2⟩ := c2 (Bool.eq_false_iff.mpr hx)
          refine hgo _ (fun j hj => by rw [hqu j hj]; exact d1 j (by omega)) (fun y hy ha g => d2 y hy (fun j hj => ?_))
          by_cases ej : j = k
          · rw [ej, hqk, g]
          · rw [← hqu j (by omega)]; exact ha j (by omega)
      · rw [if_neg hrm]
        refine hgo _ hqu (fun y hy ha g => hrm ?_)
        have := hroom y (upN q k v) hy ha (fun j hj => by
          by_cases ej : j = k
          · rw [ej, hqk, g]
          · rw [← hqu j (by omega)]; exact ha j (by omega))
        rw [g] at this
        exact this
    · rw [if_neg hv2]
      exact hgo q hq (fun y hy ha g => hv2 (by have := hok y hy ha; rw [g] at this; exact this))
