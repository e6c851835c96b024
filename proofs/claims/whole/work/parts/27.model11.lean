/-- may v come next behind s, if what is left may cost 'left' -/
def nextN (n : Nat) (nb : Nat → Nat) (kind s left v : Nat) : Bool := !(s.testBit v) && (if kind = 4 then decide (costN n nb kind s v + bbN n nb kind (s ||| 2 ^ v) ≤ left) else (decide (costN n nb kind s v ≤ left) && decide (bbN n nb kind (s ||| 2 ^ v) ≤ left)))
/-- the first from v on -/
def firstV (p : Nat → Bool) : Nat → Nat → Nat
  | 0, v => v
  | f + 1, v => if p v = true then v else firstV p f (v + 1)
theorem firstV_ok {p : Nat → Bool} : ∀ (f v u : Nat), v ≤ u → u < v + f → p u = true → firstV p f v < v + f ∧ p (firstV p f v) = true ∧ v ≤ firstV p f v ∧ ∀ w, v ≤ w → w < firstV p f v → p w = false
  | 0, v, u, h1, h2, h3 => by omega
  | f + 1, v, u, h1, h2, h3 => by
    unfold firstV
    by_cases hv : p v = true
    · rw [if_pos hv]
      exact ⟨by omega, hv, Nat.le_refl _, fun w h4 h5 => by omega⟩
    · rw [if_neg hv]
      have hu : v ≠ u := fun e => hv (e ▸ h3)
      obtain ⟨a, b, c, d⟩ := firstV_ok f (v + 1) u (by omega) (by omega) h3
      refine ⟨by omega, b, by omega, fun w h4 h5 => ?_⟩
      by_cases e : w = v
      · rw [e]; exact Bool.eq_false_iff.mpr hv
      · exact d w (by omega) h5
theorem forN_min {skip : Nat → Bool} {x : Nat → Nat} {m0 : Nat} : ∀ j, forN (fun v m => if skip v then m else if x v < m then x v else m) j m0 = m0 ∨ ∃ v, v < j ∧ skip v = false ∧ forN (fun v m => if skip v then m else if x v < m then x v else m) j m0 = x v
  | 0 => Or.inl rfl
  | j + 1 => by
    have ih := forN_min (skip := skip) (x := x) (m0 := m0) j
    simp only [forN]
    generalize forN (fun v m => if skip v then m else if x v < m then x v else m) j m0 = g at ih
    cases hs : skip j with
    | true =>
      simp only [if_true]
      rcases ih with h | ⟨v, h1, h2, h3⟩
      · exact Or.inl h
      · exact Or.inr ⟨v, by omega, h2, h3⟩
    | false =>
      simp only [Bool.false_eq_true, if_false]
      by_cases hx : x j < g
      · rw [if_pos hx]; exact Or.inr ⟨j, by omega, hs, rfl⟩
      · rw [if_neg hx]
        rcases ih with h | ⟨v, h1, h2, h3⟩
        · exact Or.inl h
        · exact Or.inr ⟨v, by omega, h2, h3⟩
theorem forN_min_le {skip : Nat → Bool} {x : Nat → Nat} {m0 : Nat} : ∀ j, forN (fun v m => if skip v then m else if x v < m then x v else m) j m0 ≤ m0 ∧ ∀ v, v < j → skip v = false → forN (fun v m => if skip v then m else if x v < m then x v else m) j m0 ≤ x v
  | 0 => ⟨Nat.le_refl _, fun v h => by omega⟩
  | j + 1 => by
    have ih := forN_min_le (skip := skip) (x := x) (m0 := m0) j
    simp only [forN]
    generalize forN (fun v m => if skip v then m else if x v < m then x v else m) j m0 = g at ih
    cases hs : skip j with
    | true =>
      simp only [if_true]
      refine ⟨ih.1, fun v h1 h2 => ?_⟩
      by_cases e : v = j
      · rw [e, hs] at h2; cases h2
      · exact ih.2 v (by omega) h2
    | false =>
      simp only [Bool.false_eq_true, if_false]
      by_cases hx : x j < g
      · rw [if_pos hx]
        refine ⟨by omega, fun v h1 h2 => ?_⟩
        by_cases e : v = j
        · rw [e]; exact Nat.le_refl _
        · have := ih.2 v (by omega) h2; omega
      · rw [if_neg hx]
        refine ⟨ih.1, fun v h1 h2 => ?_⟩
        by_cases e : v = j
        · rw [e]; omega
        · exact ih.2 v (by omega) h2
theorem bbN_min {n : Nat} {nb : Nat → Nat} {kind s : Nat} (hs : s < 2 ^ n) : bbN n nb kind s = forN (fun v m => if s.testBit v then m else if comb kind (costN n nb kind s v) (bbN n nb kind (s ||| 2 ^ v)) < m then comb kind (costN n nb kind s v) (bbN n nb kind (s ||| 2 ^ v)) else m) n (if s = 2 ^ n - 1 then 0 else 1000) := bbN_eq hs
/-- a vertex of n that isn't in s -/
theorem unset_ex {n s : Nat} (hs : s < 2 ^ n) (hne : s ≠ 2 ^ n - 1) : ∃ v, v < n ∧ s.testBit v = false := by
  refine Classical.byContradiction (fun h => hne ?_)
  apply Nat.eq_of_testBit_eq
  intro i
  rw [all_bit]
  by_cases hi : i < n
  · have : s.testBit i = true := by
      cases hb : s.testBit i with
      | true => rfl
      | false => exact absurd ⟨i, hi, hb⟩ h
    simp [this, hi]
  · rw [bt_big hs (by omega)]; simp [hi]
theorem next_ex {n : Nat} {nb : Nat → Nat} {kind s left : Nat} (hs : s < 2 ^ n) (hne : s ≠ 2 ^ n - 1) (hl : bbN n nb kind s ≤ left) (hl2 : left < 1000) : ∃ v, v < n ∧ nextN n nb kind s left v = true := by
  have h := forN_min (skip := fun v => s.testBit v) (x := fun v => comb kind (costN n nb kind s v) (bbN n nb kind (s ||| 2 ^ v))) (m0 := if s = 2 ^ n - 1 then 0 else 1000) n
  rw [← bbN_min hs, if_neg hne] at h
  rcases h with h | ⟨v, h1, h2, h3⟩
  · omega
  · refine ⟨v, h1, ?_⟩
    unfold comb at h3
    unfold nextN
    rw [h2]
    by_cases hk : kind = 4
    · rw [if_pos hk] at h3 ⊢
      simp; omega
    · rw [if_neg hk] at h3 ⊢
      simp
      split at h3 <;> omega
theorem pop_or {s v : Nat} (hs : s < 1024) (hv : v < 10) (h : s.testBit v = false) : pop (s ||| 2 ^ v) = pop s + 1 := by
  have h9 : ∀ s, s < 1024 → ∀ v, v < 10 → s.testBit v = false → pop (s ||| 2 ^ v) = pop s + 1 := by decide +kernel
  exact h9 s hs v hv h
theorem costN_le4 {n : Nat} {nb : Nat → Nat} {s v : Nat} (hn : n ≤ 10) (hb : ∀ v, v < 10 → nb v < 1024) : costN n nb 4 s v ≤ 10 := pop_le (sd_lt (b := nb v) (seesN_lt hn hb s v))
theorem bbN_small {n : Nat} {nb : Nat → Nat} {kind : Nat} (hn : n ≤ 10) (hb : ∀ v, v < 10 → nb v < 1024) : ∀ s, s < 2 ^ n → bbN n nb kind s ≤ (if kind = 4 then 10 * (10 - pop s) else 100) := by
  have hp := pow10 hn
  refine wh_ind (P := fun s => s < 2 ^ n → bbN n nb kind s ≤ (if kind = 4 then 10 * (10 - pop s) else 100)) (fun s => 2 ^ n - s) (fun s ih hs => ?_)
  have h := forN_min_le (skip := fun v => s.testBit v) (x := fun v => comb kind (costN n nb kind s v) (bbN n nb kind (s ||| 2 ^ v))) (m0 := if s = 2 ^ n - 1 then 0 else 1000) n
  rw [← bbN_min hs] at h
  by_cases e : s = 2 ^ n - 1
  · rw [if_pos e] at h; have := h.1; omega
  · obtain ⟨v, h1, h2⟩ := unset_ex hs e
    have h3 := h.2 v h1 h2
    have h4 := or_gt h2
    have h5 := or_ltn hs h1
    have h6 := ih (s ||| 2 ^ v) (by omega) h5
    have hpo := pop_or (s := s) (v := v) (by omega) (by omega) h2
    have hpl := pop_le (s := s ||| 2 ^ v) (by omega)
    unfold comb at h3
    by_cases hk : kind = 4
    · subst hk
      have hc := costN_le4 (s := s) (v := v) hn hb
      simp only [if_true] at h3 h6 ⊢
      omega
    · have hc := costN_le (kind := kind) (s := s) (v := v) hn hb
      rw [if_neg hk] at h3 h6 ⊢
      split at h3 <;> omega
theorem bbN_lt {n : Nat} {nb : Nat → Nat} {kind s : Nat} (hn : n ≤ 10) (hb : ∀ v, v < 10 → nb v < 1024) (hs : s < 2 ^ n) : bbN n nb kind s ≤ 100 := by
  have := bbN_small (kind := kind) hn hb s hs
  split at this <;> omega
theorem bbA_at {n : Nat} {nb : Nat → Nat} {kind : Nat} {g : Nat → Int32} {j : Nat} (h : j < 2 ^ n) : bbA n nb kind g j = nI (bbN n nb kind j) := if_pos h
/-- the vertex that comes next -/
def pickV (n : Nat) (nb : Nat → Nat) (kind s left : Nat) : Nat := firstV (nextN n nb kind s left) n 0
/-- one place of a least order: those ahead, what is left, the row -/
def layS (n : Nat) (nb : Nat → Nat) (kind : Nat) : Nat → (Nat × Nat × (Nat → Int32)) → (Nat × Nat × (Nat → Int32)) := fun k q => (q.1 ||| 2 ^ pickV n nb kind q.1 q.2.1, (if kind = 4 then q.2.1 - costN n nb kind q.1 (pickV n nb kind q.1 q.2.1) else q.2.1), upd q.2.2 k (nI (pickV n nb kind q.1 q.2.1)))
/-- a least order of kind 0, 1, 3 or 4: its row -/
def layN (n : Nat) (nb : Nat → Nat) (kind : Nat) (g : Nat → Int32) : Nat × Nat × (Nat → Int32) := forN (layS n nb kind) n (0, bbN n nb kind 0, g)
section MM
variable {xs : Nat → Int32} {Ls : Nat} {A : Nat → Nat → Int32} {B : Nat → Nat → Int64} {F : Nat → Int32} {sw : Bool} {n : Nat} {nb : Nat → Nat}
theorem ev_isNext (hM : MI A F n nb) {kind : Nat} (hkd : kind = 0 ∨ kind = 1 ∨ kind = 3 ∨ kind = 4) {s v left : Nat} (hs : s < 2 ^ n) (hv : v < n) (hl : left ≤ 1000) (hT : ∀ j, j < 2 ^ n → A 31 j = nI (bbN n nb kind j)) : mv_Ev xs Ls 4 117 [.ref 28, .int (nI kind), .int (nI s), .int (nI v), .int (nI left)] (MW A B F sw) (some (.int (bI (nextN n nb kind s left v))), MW A B F sw, 0, 0) := by
  refine ev_of_wp rfl rfl rfl ?_
  have hn := hM.1
  have hp := pow10 hn
  have hp1 : 1 ≤ 2 ^ n := Nat.one_le_two_pow
  have hal := all_lt hn
  have hk4 : kind ≤ 4 := by omega
  refine wp_go (f' := (5, [.ref 28, .int (nI kind), .int (nI s), .int (nI v), .int (nI left), .retAddr 0, .retAddr 0], [.int (((nI s) >>> ((nI v) &&& 31)) &&& (nI 1))], MW A B F sw, 0, 0)) 5 rfl ?_
  rw [bx_bit (by omega) (by omega)]
  refine wp_go (f' := ((if ¬ (bI (s.testBit v)) = (nI 1) then 11 else 9), [.ref 28, .int (nI kind), .int (nI s), .int (nI v), .int (nI left), .retAddr 0, .retAddr 0], [], MW A B F sw, 0, 0)) 2 rfl ?_
  refine wp_ite (fun h1 => ?_) (fun h1 => ?_)
  · have h1 := bI_n1 h1
    refine wp_go (f' := (15, [.ref 28, .int (nI kind), .int (nI s), .int (nI v), .int (nI left), .retAddr 0, .retAddr 0], [.int (nI v), .int (nI s), .int (nI kind), .ref 28], MW A B F sw, 0, 0)) 4 rfl ?_
    refine wp_call rfl rfl rfl (ev_up (ev_cost hkd hM (s := s) (v := v) (by omega) (by omega)) (by decide)) ?_
    refine wp_eq (f' := (18, [.ref 28, .int (nI kind), .int (nI s), .int (nI v), .int (nI left), .retAddr 0, .retAddr 0], [.int (nI (costN n nb kind s v))], MW A B F sw, 0, 0)) rfl ?_
    have hco := costN_le (kind := kind) (s := s) (v := v) hM.1 hM.2.2.2
    refine wp_go (f' := (28, [.ref 28, .int (nI kind), .int (nI s), .int (nI v), .int (nI left), .int (nI (costN n nb kind s v)), .retAddr 0], [.int ((nI 1) <<< ((nI v) &&& 31)), .int (nI s), .ref 31], MW A B F sw, 0, 0)) 7 rfl ?_
    rw [bx_one (by omega)]
    have hb1 : 2 ^ v < 1024 := by first | omega | exact or_lt (by omega) (by omega) | exact and_lt (by omega) | exact and_lt_r (by omega) | exact sd_lt (by omega) | exact pow_lt (by omega)
    refine wp_go (f' := (29, [.ref 28, .int (nI kind), .int (nI s), .int (nI v), .int (nI left), .int (nI (costN n nb kind s v)), .retAddr 0], [.int ((nI s) ||| (nI (2 ^ v))), .ref 31], MW A B F sw, 0, 0)) 1 rfl ?_
    rw [bx_or]
    have hb2 : s ||| (2 ^ v) < 1024 := by first | omega | exact or_lt (by omega) (by omega) | exact and_lt (by omega) | exact and_lt_r (by omega) | exact sd_lt (by omega) | exact pow_lt (by omega)
    refine wp_iald rfl rfl (by omega) (by decide) ?_
    rw [hT (s ||| (2 ^ v)) (or_ltn hs hv)]
    have hbd := bbN_le (nb := nb) (kind := kind) (or_ltn hs hv)
    refine wp_go (f' := ((if ¬ (nI kind) = (nI 4) then 55 else 37), [.ref 28, .int (nI kind), .int (nI s), .int (nI v), .int (nI left), .int (nI (costN n nb kind s v)), .int (nI (bbN n nb kind (s ||| (2 ^ v))))], [], MW A B F sw, 0, 0)) 4 rfl ?_
    refine wp_ite (fun h2 => ?_) (fun h2 => ?_)
    · have h2 : ¬ (kind = 4) := fun h9 => h2 ((nI_eq (a := kind) (b := 4) (by omega) (by omega)).mpr h9)
      refine wp_go (f' := ((if (nI left) < (nI (costN n nb kind s v)) then 73 else 62), [.ref 28, .int (nI kind), .int (nI s), .int (nI v), .int (nI left), .int (nI (costN n nb kind s v)), .int (nI (bbN n nb kind (s ||| (2 ^ v))))], [], MW A B F sw, 0, 0)) 3 rfl ?_
      refine wp_ite (fun h3 => ?_) (fun h3 => ?_)
      · have h3 : left < costN n nb kind s v := (nI_ltI (a := left) (b := costN n nb kind s v) (by omega) (by omega)).mp h3
        refine wp_go (f' := (74, [.ref 28, .int (nI kind), .int (nI s), .int (nI v), .int (nI left), .int (nI (costN n nb kind s v)), .int (nI (bbN n nb kind (s ||| (2 ^ v))))], [.int (nI 0)], MW A B F sw, 0, 0)) 1 rfl ?_
        rw [show nextN n nb kind s left v = false by unfold nextN; rw [h1]; (first | rw [if_pos h2] | rw [if_neg h2]); simp <;> omega]
        exact wp_zret rfl (by first | exact Or.inl rfl | exact Or.inr rfl)
      · have h3 : ¬ (left < costN n nb kind s v) := fun h9 => h3 ((nI_ltI (a := left) (b := costN n nb kind s v) (by omega) (by omega)).mpr h9)
        refine wp_go (f' := ((if (nI left) < (nI (bbN n nb kind (s ||| (2 ^ v)))) then 73 else 69), [.ref 28, .int (nI kind), .int (nI s), .int (nI v), .int (nI left), .int (nI (costN n nb kind s v)), .int (nI (bbN n nb kind (s ||| (2 ^ v))))], [], MW A B F sw, 0, 0)) 3 rfl ?_
        refine wp_ite (fun h4 => ?_) (fun h4 => ?_)
        · have h4 : left < bbN n nb kind (s ||| (2 ^ v)) := (nI_ltI (a := left) (b := bbN n nb kind (s ||| (2 ^ v))) (by omega) (by omega)).mp h4
          refine wp_go (f' := (74, [.ref 28, .int (nI kind), .int (nI s), .int (nI v), .int (nI left), .int (nI (costN n nb kind s v)), .int (nI (bbN n nb kind (s ||| (2 ^ v))))], [.int (nI 0)], MW A B F sw, 0, 0)) 1 rfl ?_
          rw [show nextN n nb kind s left v = false by unfold nextN; rw [h1]; (first | rw [if_pos h2] | rw [if_neg h2]); simp <;> omega]
          exact wp_zret rfl (by first | exact Or.inl rfl | exact Or.inr rfl)
        · have h4 : ¬ (left < bbN n nb kind (s ||| (2 ^ v))) := fun h9 => h4 ((nI_ltI (a := left) (b := bbN n nb kind (s ||| (2 ^ v))) (by omega) (by omega)).mpr h9)
          refine wp_go (f' := (74, [.ref 28, .int (nI kind), .int (nI s), .int (nI v), .int (nI left), .int (nI (costN n nb kind s v)), .int (nI (bbN n nb kind (s ||| (2 ^ v))))], [.int (nI 1)], MW A B F sw, 0, 0)) 2 rfl ?_
          rw [show nextN n nb kind s left v = true by unfold nextN; rw [h1]; (first | rw [if_pos h2] | rw [if_neg h2]); simp <;> omega]
          exact wp_zret rfl (by first | exact Or.inl rfl | exact Or.inr rfl)
    · have h2 := Classical.not_not.mp h2; have h2 : kind = 4 := (nI_eq (a := kind) (b := 4) (by omega) (by omega)).mp h2
      refine wp_go (f' := (42, [.ref 28, .int (nI kind), .int (nI s), .int (nI v), .int (nI left), .int (nI (costN n nb kind s v)), .int (nI (bbN n nb kind (s ||| (2 ^ v))))], [.int ((nI (costN n nb kind s v)) + (nI (bbN n nb kind (s ||| (2 ^ v)))))], MW A B F sw, 0, 0)) 3 rfl ?_
      rw [nI_add]
      refine wp_go (f' := ((if (nI left) < (nI ((costN n nb kind s v) + (bbN n nb kind (s ||| (2 ^ v))))) then 51 else 47), [.ref 28, .int (nI kind), .int (nI s), .int (nI v), .int (nI left), .int (nI (costN n nb kind s v)), .int (nI (bbN n nb kind (s ||| (2 ^ v))))], [], MW A B F sw, 0, 0)) 2 rfl ?_
      refine wp_ite (fun h5 => ?_) (fun h5 => ?_)
      · have h5 : left < (costN n nb kind s v) + (bbN n nb kind (s ||| (2 ^ v))) := (nI_ltI (a := left) (b := (costN n nb kind s v) + (bbN n nb kind (s ||| (2 ^ v)))) (by omega) (by omega)).mp h5
        refine wp_go (f' := (74, [.ref 28, .int (nI kind), .int (nI s), .int (nI v), .int (nI left), .int (nI (costN n nb kind s v)), .int (nI (bbN n nb kind (s ||| (2 ^ v))))], [.int (nI 0)], MW A B F sw, 0, 0)) 2 rfl ?_
        rw [show nextN n nb kind s left v = false by unfold nextN; rw [h1]; (first | rw [if_pos h2] | rw [if_neg h2]); simp <;> omega]
        exact wp_zret rfl (by first | exact Or.inl rfl | exact Or.inr rfl)
      · have h5 : ¬ (left < (costN n nb kind s v) + (bbN n nb kind (s ||| (2 ^ v)))) := fun h9 => h5 ((nI_ltI (a := left) (b := (costN n nb kind s v) + (bbN n nb kind (s ||| (2 ^ v)))) (by omega) (by omega)).mpr h9)
        refine wp_go (f' := (74, [.ref 28, .int (nI kind), .int (nI s), .int (nI v), .int (nI left), .int (nI (costN n nb kind s v)), .int (nI (bbN n nb kind (s ||| (2 ^ v))))], [.int (nI 1)], MW A B F sw, 0, 0)) 2 rfl ?_
        rw [show nextN n nb kind s left v = true by unfold nextN; rw [h1]; (first | rw [if_pos h2] | rw [if_neg h2]); simp <;> omega]
        exact wp_zret rfl (by first | exact Or.inl rfl | exact Or.inr rfl)
  · have h1 := Classical.not_not.mp h1; have h1 := bI_1.mp h1
    refine wp_go (f' := (10, [.ref 28, .int (nI kind), .int (nI s), .int (nI v), .int (nI left), .retAddr 0, .retAddr 0], [.int (nI 0)], MW A B F sw, 0, 0)) 1 rfl ?_
    rw [show nextN n nb kind s left v = false by unfold nextN; rw [h1]; rfl]
    exact wp_zret rfl (by first | exact Or.inl rfl | exact Or.inr rfl)
theorem pop_all {n : Nat} (hn : n ≤ 10) : pop (2 ^ n - 1) = n := by
  have h : ∀ n, n ≤ 10 → pop (2 ^ n - 1) = n := by decide +kernel
  exact h n hn
theorem ev_lay (hM : MI A F n nb) {kind : Nat} (hkd : kind = 0 ∨ kind = 1 ∨ kind = 3 ∨ kind = 4) : mv_Ev xs Ls 5 107 [.ref 28, .int (nI kind)] (MW A B F sw) (some (.int (nI (bbN n nb kind 0))), MW (upA (upA A 31 (bbA n nb kind (A 31))) 32 (layN n nb kind (A 32)).2.2) B F sw, 0, 0) := by
  refine ev_of_wp rfl rfl rfl ?_
  have hn := hM.1
  have hp := pow10 hn
  have hp1 : 1 ≤ 2 ^ n := Nat.one_le_two_pow
  have hal := all_lt hn
  have hk4 : kind ≤ 4 := by omega
  have hsm := bbN_lt (nb := nb) (kind := kind) (s := 0) hM.1 hM.2.2.2 (by omega)
  refine wp_go (f' := ((if ¬ (nI kind) = (nI 2) then 10 else 5), [.ref 28, .int (nI kind), .retAddr 0, .retAddr 0, .retAddr 0, .retAddr 0, .retAddr 0], [], MW A B F sw, 0, 0)) 3 rfl ?_
  refine wp_ite (fun _ => ?_) (fun h9 => absurd (fun h8 => by have h7 := (nI_eq (a := kind) (b := 2) (by omega) (by omega)).mp h8; omega) h9)
  refine wp_go (f' := ((if ¬ (nI kind) = (nI 5) then 20 else 15), [.ref 28, .int (nI kind), .retAddr 0, .retAddr 0, .retAddr 0, .retAddr 0, .retAddr 0], [], MW A B F sw, 0, 0)) 3 rfl ?_
  refine wp_ite (fun _ => ?_) (fun h9 => absurd (fun h8 => by have h7 := (nI_eq (a := kind) (b := 5) (by omega) (by omega)).mp h8; omega) h9)
  refine wp_go (f' := (22, [.ref 28, .int (nI kind), .retAddr 0, .retAddr 0, .retAddr 0, .retAddr 0, .retAddr 0], [.int (nI kind), .ref 28], MW A B F sw, 0, 0)) 2 rfl ?_
  refine wp_call rfl rfl rfl (ev_up (ev_tellBehind hM hkd) (by decide)) ?_
  refine wp_eq (f' := (25, [.ref 28, .int (nI kind), .retAddr 0, .retAddr 0, .retAddr 0, .retAddr 0, .retAddr 0], [], MW (upA A 31 (bbA n nb kind (A 31))) B F sw, 0, 0)) rfl ?_
  refine wp_go (f' := (30, [.ref 28, .int (nI kind), .retAddr 0, .retAddr 0, .retAddr 0, .retAddr 0, .retAddr 0], [.int (nI 0), .ref 31], MW (upA A 31 (bbA n nb kind (A 31))) B F sw, 0, 0)) 3 rfl ?_
  refine wp_iald rfl rfl (by omega) (by decide) ?_
  refine wp_eq (f' := (31, [.ref 28, .int (nI kind), .retAddr 0, .retAddr 0, .retAddr 0, .retAddr 0, .retAddr 0], [.int ((bbA n nb kind (A 31)) 0)], MW (upA A 31 (bbA n nb kind (A 31))) B F sw, 0, 0)) rfl ?_
  rw [bbA_at (by omega)]
  refine wp_go (f' := (40, [.ref 28, .int (nI kind), .int (nI (bbN n nb kind 0)), .int (nI (bbN n nb kind 0)), .int (nI 0), .int (nI 0), .retAddr 0], [], MW (upA A 31 (bbA n nb kind (A 31))) B F sw, 0, 0)) 7 rfl ?_
  refine wp_eq (f' := (40, [.ref 28, .int (nI kind), .int (nI (bbN n nb kind 0)), .int (nI (bbN n nb kind 0)), .int (nI 0), .int (nI 0), .retAddr 0], [], MW (upA (upA A 31 (bbA n nb kind (A 31))) 32 (A 32)) B F sw, 0, 0)) rfl ?_
  refine for_ind (P := fun (k : Nat) (q : Nat × Nat × (Nat → Int32)) => (q.1 < 2 ^ n ∧ bbN n nb kind q.1 ≤ q.2.1 ∧ q.2.1 ≤ 100 ∧ pop q.1 = k) → ∀ d6 : Value, mv_Wp xs Ls 4 6 false (some .int) mv_c107 (40, [.ref 28, .int (nI kind), .int (nI (bbN n nb kind 0)), .int (nI q.2.1), .int (nI q.1), .int (nI k), d6], [], MW (upA (upA A 31 (bbA n nb kind (A 31))) 32 q.2.2) B F sw, 0, 0) (some (.int (nI (bbN n nb kind 0))), MW (upA (upA A 31 (bbA n nb kind (A 31))) 32 (layN n nb kind (A 32)).2.2) B F sw, 0, 0)) (f := layS n nb kind) (n := n) ?_ n (0, bbN n nb kind 0, A 32) (Nat.le_refl _) ?_ ⟨by omega, Nat.le_refl _, hsm, (by show pop 0 = 0; decide)⟩ _
  · intro k q hk ih hq d6
    obtain ⟨q1, q2, q3⟩ := q
    dsimp only at hq ih ⊢
    obtain ⟨i1, i2, i3, i4⟩ := hq
    have hM2 : MI (upA (upA A 31 (bbA n nb kind (A 31))) 32 q3) F n nb := hM
    have hne : q1 ≠ 2 ^ n - 1 := fun e => by rw [e, pop_all hn] at i4; omega
    obtain ⟨v1, v2, v3⟩ := next_ex (nb := nb) (kind := kind) i1 hne i2 (by omega)
    obtain ⟨w1, w2, w3, w4⟩ := firstV_ok (p := nextN n nb kind q1 q2) n 0 v1 (Nat.zero_le _) (by omega) v3
    change pickV n nb kind q1 q2 < 0 + n at w1
    change nextN n nb kind q1 q2 (pickV n nb kind q1 q2) = true at w2
    change ∀ w, 0 ≤ w → w < pickV n nb kind q1 q2 → nextN n nb kind q1 q2 w = false at w4
    refine wp_go (f' := (46, [.ref 28, .int (nI kind), .int (nI (bbN n nb kind 0)), .int (nI q2), .int (nI q1), .int (nI k), d6], [.int (F 6), .int (nI k)], MW (upA (upA A 31 (bbA n nb kind (A 31))) 32 q3) B F sw, 0, 0)) 3 rfl ?_
    rw [hM.2.1]
    refine wp_go (f' := ((if (nI n) ≤ (nI k) then 116 else 49), [.ref 28, .int (nI kind), .int (nI (bbN n nb kind 0)), .int (nI q2), .int (nI q1), .int (nI k), d6], [], MW (upA (upA A 31 (bbA n nb kind (A 31))) 32 q3) B F sw, 0, 0)) 1 rfl ?_
    refine wp_ite (fun h9 => absurd h9 (nI_ge hk (by omega))) (fun _ => ?_)
    refine wp_go (f' := (52, [.ref 28, .int (nI kind), .int (nI (bbN n nb kind 0)), .int (nI q2), .int (nI q1), .int (nI k), .int (nI 0)], [], MW (upA (upA A 31 (bbA n nb kind (A 31))) 32 q3) B F sw, 0, 0)) 2 rfl ?_
    refine wh_ind (P := fun (v : Nat) => v ≤ pickV n nb kind q1 q2 → mv_Wp xs Ls 4 6 false (some .int) mv_c107 (52, [.ref 28, .int (nI kind), .int (nI (bbN n nb kind 0)), .int (nI q2), .int (nI q1), .int (nI k), .int (nI v)], [], MW (upA (upA A 31 (bbA n nb kind (A 31))) 32 q3) B F sw, 0, 0) (some (.int (nI (bbN n nb kind 0))), MW (upA (upA A 31 (bbA n nb kind (A 31))) 32 (layN n nb kind (A 32)).2.2) B F sw, 0, 0)) (fun v => n - v) ?_ 0 (Nat.zero_le _)
    intro v ih2 hv
    refine wp_go (f' := (59, [.ref 28, .int (nI kind), .int (nI (bbN n nb kind 0)), .int (nI q2), .int (nI q1), .int (nI k), .int (nI v)], [.int (nI q2), .int (nI v), .int (nI q1), .int (nI kind), .ref 28], MW (upA (upA A 31 (bbA n nb kind (A 31))) 32 q3) B F sw, 0, 0)) 5 rfl ?_
    refine wp_call rfl rfl rfl (ev_up (ev_isNext hM2 hkd (s := q1) (v := v) (left := q2) (by omega) (by omega) (by omega) (fun j hj => bbA_at hj)) (by decide)) ?_
    refine wp_eq (f' := (62, [.ref 28, .int (nI kind), .int (nI (bbN n nb kind 0)), .int (nI q2), .int (nI q1), .int (nI k), .int (nI v)], [.int (bI (nextN n nb kind q1 q2 v))], MW (upA (upA A 31 (bbA n nb kind (A 31))) 32 q3) B F sw, 0, 0)) rfl ?_
    refine wp_go (f' := ((if ¬ (bI (nextN n nb kind q1 q2 v)) = 0 then 71 else 65), [.ref 28, .int (nI kind), .int (nI (bbN n nb kind 0)), .int (nI q2), .int (nI q1), .int (nI k), .int (nI v)], [], MW (upA (upA A 31 (bbA n nb kind (A 31))) 32 q3) B F sw, 0, 0)) 1 rfl ?_
    refine wp_ite (fun h1 => ?_) (fun h1 => ?_)
    · have h1 := bI_n0 h1
      have h9 : v = pickV n nb kind q1 q2 := by
        rcases Nat.lt_or_ge v (pickV n nb kind q1 q2) with g | g
        · rw [w4 v (Nat.zero_le _) g] at h1; cases h1
        · omega
      rw [h9]
      have hpv : pickV n nb kind q1 q2 < n := by omega
      have hnx : bbN n nb kind (q1 ||| 2 ^ pickV n nb kind q1 q2) ≤ (if kind = 4 then q2 - costN n nb kind q1 (pickV n nb kind q1 q2) else q2) ∧ (kind = 4 → costN n nb kind q1 (pickV n nb kind q1 q2) ≤ q2) := by
        have h7 := w2
        unfold nextN at h7
        rw [Bool.and_eq_true] at h7
        have h6 := h7.2
        by_cases hk9 : kind = 4
        · rw [if_pos hk9] at h6 ⊢; simp at h6; exact ⟨by omega, fun _ => by omega⟩
        · rw [if_neg hk9] at h6 ⊢; simp at h6; exact ⟨by omega, fun h => absurd h hk9⟩
      obtain ⟨hnx, hcl⟩ := hnx
      refine wp_go (f' := ((if ¬ (nI kind) = (nI 4) then 89 else 77), [.ref 28, .int (nI kind), .int (nI (bbN n nb kind 0)), .int (nI q2), .int (nI q1), .int (nI k), .int (nI (pickV n nb kind q1 q2))], [.int (nI q2)], MW (upA (upA A 31 (bbA n nb kind (A 31))) 32 q3) B F sw, 0, 0)) 4 rfl ?_
      refine wp_ite (fun h2 => ?_) (fun h2 => ?_)
      · have h2 : ¬ (kind = 4) := fun h9 => h2 ((nI_eq (a := kind) (b := 4) (by omega) (by omega)).mpr h9)
        rw [if_neg h2] at hnx
        refine wp_go (f' := (91, [.ref 28, .int (nI kind), .int (nI (bbN n nb kind 0)), .int (nI q2), .int (nI q1), .int (nI k), .int (nI (pickV n nb kind q1 q2))], [.int ((nI q2) - (nI 0))], MW (upA (upA A 31 (bbA n nb kind (A 31))) 32 q3) B F sw, 0, 0)) 2 rfl ?_
        rw [pk_sub (by omega)]
        refine wp_go (f' := (100, [.ref 28, .int (nI kind), .int (nI (bbN n nb kind 0)), .int (nI (q2 - 0)), .int (nI q1), .int (nI k), .int (nI (pickV n nb kind q1 q2))], [.int (nI (pickV n nb kind q1 q2)), .int (nI k), .ref 32], MW (upA (upA A 31 (bbA n nb kind (A 31))) 32 q3) B F sw, 0, 0)) 5 rfl ?_
        refine wp_iast rfl rfl (by omega) (by decide) ?_
        refine wp_eq (f' := (101, [.ref 28, .int (nI kind), .int (nI (bbN n nb kind 0)), .int (nI (q2 - 0)), .int (nI q1), .int (nI k), .int (nI (pickV n nb kind q1 q2))], [], MW (upA (upA A 31 (bbA n nb kind (A 31))) 32 (upd q3 k (nI (pickV n nb kind q1 q2)))) B F sw, 0, 0)) rfl ?_
        refine wp_go (f' := (107, [.ref 28, .int (nI kind), .int (nI (bbN n nb kind 0)), .int (nI (q2 - 0)), .int (nI q1), .int (nI k), .int (nI (pickV n nb kind q1 q2))], [.int ((nI 1) <<< ((nI (pickV n nb kind q1 q2)) &&& 31)), .int (nI q1)], MW (upA (upA A 31 (bbA n nb kind (A 31))) 32 (upd q3 k (nI (pickV n nb kind q1 q2)))) B F sw, 0, 0)) 4 rfl ?_
        rw [bx_one (by omega)]
        have hb1 : 2 ^ (pickV n nb kind q1 q2) < 1024 := by first | omega | exact or_lt (by omega) (by omega) | exact and_lt (by omega) | exact and_lt_r (by omega) | exact sd_lt (by omega) | exact pow_lt (by omega)
        refine wp_go (f' := (108, [.ref 28, .int (nI kind), .int (nI (bbN n nb kind 0)), .int (nI (q2 - 0)), .int (nI q1), .int (nI k), .int (nI (pickV n nb kind q1 q2))], [.int ((nI q1) ||| (nI (2 ^ (pickV n nb kind q1 q2))))], MW (upA (upA A 31 (bbA n nb kind (A 31))) 32 (upd q3 k (nI (pickV n nb kind q1 q2)))) B F sw, 0, 0)) 1 rfl ?_
        rw [bx_or]
        have hb2 : q1 ||| (2 ^ (pickV n nb kind q1 q2)) < 1024 := by first | omega | exact or_lt (by omega) (by omega) | exact and_lt (by omega) | exact and_lt_r (by omega) | exact sd_lt (by omega) | exact pow_lt (by omega)
        refine wp_go (f' := (113, [.ref 28, .int (nI kind), .int (nI (bbN n nb kind 0)), .int (nI (q2 - 0)), .int (nI (q1 ||| (2 ^ (pickV n nb kind q1 q2)))), .int ((nI k) + 1), .int (nI (pickV n nb kind q1 q2))], [], MW (upA (upA A 31 (bbA n nb kind (A 31))) 32 (upd q3 k (nI (pickV n nb kind q1 q2)))) B F sw, 0, 0)) 2 rfl ?_
        rw [nI_1]
        refine wp_go (f' := (40, [.ref 28, .int (nI kind), .int (nI (bbN n nb kind 0)), .int (nI (q2 - 0)), .int (nI (q1 ||| (2 ^ (pickV n nb kind q1 q2)))), .int (nI (k + 1)), .int (nI (pickV n nb kind q1 q2))], [], MW (upA (upA A 31 (bbA n nb kind (A 31))) 32 (upd q3 k (nI (pickV n nb kind q1 q2)))) B F sw, 0, 0)) 1 rfl ?_
        have h8 := ih ?_ (.int (nI (pickV n nb kind q1 q2)))
        · unfold layS at h8
          rw [if_neg h2] at h8
          exact h8
        · unfold layS
          dsimp only
          rw [if_neg h2]
          have hb9 : q1.testBit (pickV n nb kind q1 q2) = false := by
            have h7 := w2
            unfold nextN at h7
            cases hq1 : q1.testBit (pickV n nb kind q1 q2) with
            | false => rfl
            | true => rw [hq1] at h7; cases h7
          refine ⟨or_ltn i1 (by omega), hnx, by omega, ?_⟩
          rw [pop_or (by omega) (by omega) hb9]; omega
      · have h2 := Classical.not_not.mp h2; have h2 : kind = 4 := (nI_eq (a := kind) (b := 4) (by omega) (by omega)).mp h2
        have hcl := hcl h2
        rw [if_pos h2] at hnx
        refine wp_go (f' := (83, [.ref 28, .int (nI kind), .int (nI (bbN n nb kind 0)), .int (nI q2), .int (nI q1), .int (nI k), .int (nI (pickV n nb kind q1 q2))], [.int (nI (pickV n nb kind q1 q2)), .int (nI q1), .int (nI kind), .ref 28, .int (nI q2)], MW (upA (upA A 31 (bbA n nb kind (A 31))) 32 q3) B F sw, 0, 0)) 4 rfl ?_
        refine wp_call rfl rfl rfl (ev_up (ev_cost hkd hM2 (s := q1) (v := pickV n nb kind q1 q2) (by omega) (by omega)) (by decide)) ?_
        refine wp_eq (f' := (86, [.ref 28, .int (nI kind), .int (nI (bbN n nb kind 0)), .int (nI q2), .int (nI q1), .int (nI k), .int (nI (pickV n nb kind q1 q2))], [.int (nI (costN n nb kind q1 (pickV n nb kind q1 q2))), .int (nI q2)], MW (upA (upA A 31 (bbA n nb kind (A 31))) 32 q3) B F sw, 0, 0)) rfl ?_
        refine wp_go (f' := (91, [.ref 28, .int (nI kind), .int (nI (bbN n nb kind 0)), .int (nI q2), .int (nI q1), .int (nI k), .int (nI (pickV n nb kind q1 q2))], [.int ((nI q2) - (nI (costN n nb kind q1 (pickV n nb kind q1 q2))))], MW (upA (upA A 31 (bbA n nb kind (A 31))) 32 q3) B F sw, 0, 0)) 2 rfl ?_
        rw [pk_sub (by omega)]
        refine wp_go (f' := (100, [.ref 28, .int (nI kind), .int (nI (bbN n nb kind 0)), .int (nI (q2 - (costN n nb kind q1 (pickV n nb kind q1 q2)))), .int (nI q1), .int (nI k), .int (nI (pickV n nb kind q1 q2))], [.int (nI (pickV n nb kind q1 q2)), .int (nI k), .ref 32], MW (upA (upA A 31 (bbA n nb kind (A 31))) 32 q3) B F sw, 0, 0)) 5 rfl ?_
        refine wp_iast rfl rfl (by omega) (by decide) ?_
        refine wp_eq (f' := (101, [.ref 28, .int (nI kind), .int (nI (bbN n nb kind 0)), .int (nI (q2 - (costN n nb kind q1 (pickV n nb kind q1 q2)))), .int (nI q1), .int (nI k), .int (nI (pickV n nb kind q1 q2))], [], MW (upA (upA A 31 (bbA n nb kind (A 31))) 32 (upd q3 k (nI (pickV n nb kind q1 q2)))) B F sw, 0, 0)) rfl ?_
        refine wp_go (f' := (107, [.ref 28, .int (nI kind), .int (nI (bbN n nb kind 0)), .int (nI (q2 - (costN n nb kind q1 (pickV n nb kind q1 q2)))), .int (nI q1), .int (nI k), .int (nI (pickV n nb kind q1 q2))], [.int ((nI 1) <<< ((nI (pickV n nb kind q1 q2)) &&& 31)), .int (nI q1)], MW (upA (upA A 31 (bbA n nb kind (A 31))) 32 (upd q3 k (nI (pickV n nb kind q1 q2)))) B F sw, 0, 0)) 4 rfl ?_
        rw [bx_one (by omega)]
        have hb3 : 2 ^ (pickV n nb kind q1 q2) < 1024 := by first | omega | exact or_lt (by omega) (by omega) | exact and_lt (by omega) | exact and_lt_r (by omega) | exact sd_lt (by omega) | exact pow_lt (by omega)
        refine wp_go (f' := (108, [.ref 28, .int (nI kind), .int (nI (bbN n nb kind 0)), .int (nI (q2 - (costN n nb kind q1 (pickV n nb kind q1 q2)))), .int (nI q1), .int (nI k), .int (nI (pickV n nb kind q1 q2))], [.int ((nI q1) ||| (nI (2 ^ (pickV n nb kind q1 q2))))], MW (upA (upA A 31 (bbA n nb kind (A 31))) 32 (upd q3 k (nI (pickV n nb kind q1 q2)))) B F sw, 0, 0)) 1 rfl ?_
        rw [bx_or]
        have hb4 : q1 ||| (2 ^ (pickV n nb kind q1 q2)) < 1024 := by first | omega | exact or_lt (by omega) (by omega) | exact and_lt (by omega) | exact and_lt_r (by omega) | exact sd_lt (by omega) | exact pow_lt (by omega)
        refine wp_go (f' := (113, [.ref 28, .int (nI kind), .int (nI (bbN n nb kind 0)), .int (nI (q2 - (costN n nb kind q1 (pickV n nb kind q1 q2)))), .int (nI (q1 ||| (2 ^ (pickV n nb kind q1 q2)))), .int ((nI k) + 1), .int (nI (pickV n nb kind q1 q2))], [], MW (upA (upA A 31 (bbA n nb kind (A 31))) 32 (upd q3 k (nI (pickV n nb kind q1 q2)))) B F sw, 0, 0)) 2 rfl ?_
        rw [nI_1]
        refine wp_go (f' := (40, [.ref 28, .int (nI kind), .int (nI (bbN n nb kind 0)), .int (nI (q2 - (costN n nb kind q1 (pickV n nb kind q1 q2)))), .int (nI (q1 ||| (2 ^ (pickV n nb kind q1 q2)))), .int (nI (k + 1)), .int (nI (pickV n nb kind q1 q2))], [], MW (upA (upA A 31 (bbA n nb kind (A 31))) 32 (upd q3 k (nI (pickV n nb kind q1 q2)))) B F sw, 0, 0)) 1 rfl ?_
        have h8 := ih ?_ (.int (nI (pickV n nb kind q1 q2)))
        · unfold layS at h8
          rw [if_pos h2] at h8
          exact h8
        · unfold layS
          dsimp only
          rw [if_pos h2]
          have hb9 : q1.testBit (pickV n nb kind q1 q2) = false := by
            have h7 := w2
            unfold nextN at h7
            cases hq1 : q1.testBit (pickV n nb kind q1 q2) with
            | false => rfl
            | true => rw [hq1] at h7; cases h7
          refine ⟨or_ltn i1 (by omega), hnx, by omega, ?_⟩
          rw [pop_or (by omega) (by omega) hb9]; omega
    · have h1 := Classical.not_not.mp h1; have h1 := bI_0.mp h1
      refine wp_go (f' := (68, [.ref 28, .int (nI kind), .int (nI (bbN n nb kind 0)), .int (nI q2), .int (nI q1), .int (nI k), .int ((nI v) + 1)], [], MW (upA (upA A 31 (bbA n nb kind (A 31))) 32 q3) B F sw, 0, 0)) 1 rfl ?_
      rw [nI_1]
      refine wp_go (f' := (52, [.ref 28, .int (nI kind), .int (nI (bbN n nb kind 0)), .int (nI q2), .int (nI q1), .int (nI k), .int (nI (v + 1))], [], MW (upA (upA A 31 (bbA n nb kind (A 31))) 32 q3) B F sw, 0, 0)) 1 rfl ?_
      have h9 : v ≠ pickV n nb kind q1 q2 := fun e => by rw [e, w2] at h1; cases h1
      exact ih2 (v + 1) (by omega) (by omega)
  · intro hq d6
    refine wp_go (f' := (46, [.ref 28, .int (nI kind), .int (nI (bbN n nb kind 0)), .int (nI (layN n nb kind (A 32)).2.1), .int (nI (layN n nb kind (A 32)).1), .int (nI n), d6], [.int (F 6), .int (nI n)], MW (upA (upA A 31 (bbA n nb kind (A 31))) 32 (layN n nb kind (A 32)).2.2) B F sw, 0, 0)) 3 rfl ?_
    rw [hM.2.1]
    refine wp_go (f' := ((if (nI n) ≤ (nI n) then 116 else 49), [.ref 28, .int (nI kind), .int (nI (bbN n nb kind 0)), .int (nI (layN n nb kind (A 32)).2.1), .int (nI (layN n nb kind (A 32)).1), .int (nI n), d6], [], MW (upA (upA A 31 (bbA n nb kind (A 31))) 32 (layN n nb kind (A 32)).2.2) B F sw, 0, 0)) 1 rfl ?_
    refine wp_ite (fun _ => ?_) (fun h9 => absurd (nI_le (Nat.le_refl _) (by omega)) h9)
    refine wp_go (f' := (117, [.ref 28, .int (nI kind), .int (nI (bbN n nb kind 0)), .int (nI (layN n nb kind (A 32)).2.1), .int (nI (layN n nb kind (A 32)).1), .int (nI n), d6], [.int (nI (bbN n nb kind 0))], MW (upA (upA A 31 (bbA n nb kind (A 31))) 32 (layN n nb kind (A 32)).2.2) B F sw, 0, 0)) 1 rfl ?_
    exact wp_iret rfl
end MM
