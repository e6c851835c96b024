/-! the reference's small methods -/
theorem wh_ind {α : Type} {P : α → Prop} (μ : α → Nat) (hs : ∀ a, (∀ b, μ b < μ a → P b) → P a) (a : α) : P a := by
  have h : ∀ n a, μ a < n → P a := by
    intro n
    induction n with
    | zero => intro a h; exact absurd h (Nat.not_lt_zero _)
    | succ n ih => intro a h; exact hs a (fun b hb => ih b (by omega))
  exact h (μ a + 1) a (by omega)
theorem bI_n0 {p : Bool} (h : ¬ bI p = 0) : p = true := by cases p <;> simp_all [bI]
theorem bI_n1 {p : Bool} (h : ¬ bI p = 1) : p = false := by cases p <;> simp_all [bI]
/-- what the reference's object holds of the graph: n vertices, nb v: the neighbours of v -/
def MI (A : Nat → Nat → Int32) (F : Nat → Int32) (n : Nat) (nb : Nat → Nat) : Prop := n ≤ 10 ∧ F 6 = nI n ∧ (∀ v, v < 10 → A 29 v = nI (nb v)) ∧ ∀ v, v < 10 → nb v < 1024
section MM
variable {xs : Nat → Int32} {Ls : Nat} {A : Nat → Nat → Int32} {B : Nat → Nat → Int64} {F : Nat → Int32} {sw : Bool} {n : Nat} {nb : Nat → Nat}
theorem ev_isIn (v lo hi : Int32) (w : mv_W) : mv_Ev xs Ls 1 85 [.int v, .int lo, .int hi] w (some (.int (bI (decide (lo ≤ v) && decide (v ≤ hi)))), w, 0, 0) := by
  refine ev_of_wp rfl rfl rfl ?_
  refine wp_go (f' := ((if v < lo then 14 else 5), [.int v, .int lo, .int hi], [], w, 0, 0)) 3 rfl ?_
  refine wp_ite (fun h1 => ?_) (fun h1 => ?_)
  · skip
    refine wp_go (f' := (15, [.int v, .int lo, .int hi], [.int (nI 0)], w, 0, 0)) 1 rfl ?_
    rw [show bI (decide (lo ≤ v) && decide (v ≤ hi)) = nI 0 from ?_]
    · exact wp_zret rfl (by first | exact Or.inl rfl | exact Or.inr rfl)
    · first | (simp [bI, Int32.not_le.mpr h1] <;> rfl) | (simp [bI, Int32.not_lt.mp h1, Int32.not_le.mpr h2] <;> rfl) | (simp [bI, Int32.not_lt.mp h1, Int32.not_lt.mp h2] <;> rfl)
  · skip
    refine wp_go (f' := ((if hi < v then 14 else 10), [.int v, .int lo, .int hi], [], w, 0, 0)) 3 rfl ?_
    refine wp_ite (fun h2 => ?_) (fun h2 => ?_)
    · skip
      refine wp_go (f' := (15, [.int v, .int lo, .int hi], [.int (nI 0)], w, 0, 0)) 1 rfl ?_
      rw [show bI (decide (lo ≤ v) && decide (v ≤ hi)) = nI 0 from ?_]
      · exact wp_zret rfl (by first | exact Or.inl rfl | exact Or.inr rfl)
      · first | (simp [bI, Int32.not_le.mpr h1] <;> rfl) | (simp [bI, Int32.not_lt.mp h1, Int32.not_le.mpr h2] <;> rfl) | (simp [bI, Int32.not_lt.mp h1, Int32.not_lt.mp h2] <;> rfl)
    · skip
      refine wp_go (f' := (15, [.int v, .int lo, .int hi], [.int (nI 1)], w, 0, 0)) 2 rfl ?_
      rw [show bI (decide (lo ≤ v) && decide (v ≤ hi)) = nI 1 from ?_]
      · exact wp_zret rfl (by first | exact Or.inl rfl | exact Or.inr rfl)
      · first | (simp [bI, Int32.not_le.mpr h1] <;> rfl) | (simp [bI, Int32.not_lt.mp h1, Int32.not_le.mpr h2] <;> rfl) | (simp [bI, Int32.not_lt.mp h1, Int32.not_lt.mp h2] <;> rfl)
theorem ev_isVertex (v : Int32) : mv_Ev xs Ls 2 87 [.ref 28, .int v] (MW A B F sw) (some (.int (bI (decide (nI 0 ≤ v) && decide (v ≤ F 6 - nI 1)))), MW A B F sw, 0, 0) := by
  refine ev_of_wp rfl rfl rfl ?_
  refine wp_go (f' := (8, [.ref 28, .int v], [.int ((F 6) - (nI 1)), .int (nI 0), .int v], MW A B F sw, 0, 0)) 6 rfl ?_
  refine wp_call rfl rfl rfl (ev_up (ev_isIn v (nI 0) ((F 6) - (nI 1)) _) (by decide)) ?_
  refine wp_eq (f' := (11, [.ref 28, .int v], [.int (bI (decide ((nI 0) ≤ v) && decide (v ≤ ((F 6) - (nI 1)))))], MW A B F sw, 0, 0)) rfl ?_
  exact wp_zret rfl (bI_01 _)
theorem ev_all (hM : MI A F n nb) : mv_Ev xs Ls 1 93 [.ref 28] (MW A B F sw) (some (.int (nI (2 ^ n - 1))), MW A B F sw, 0, 0) := by
  refine ev_of_wp rfl rfl rfl ?_
  have hn := hM.1
  refine wp_go (f' := (5, [.ref 28], [.int (F 6), .int (nI 1)], MW A B F sw, 0, 0)) 3 rfl ?_
  rw [hM.2.1]
  refine wp_go (f' := (6, [.ref 28], [.int ((nI 1) <<< ((nI n) &&& 31))], MW A B F sw, 0, 0)) 1 rfl ?_
  rw [bx_one (by omega)]
  refine wp_go (f' := (8, [.ref 28], [.int ((nI (2 ^ n)) - (nI 1))], MW A B F sw, 0, 0)) 2 rfl ?_
  rw [pk_sub Nat.one_le_two_pow]
  exact wp_iret rfl
theorem ev_isEdge (hM : MI A F n nb) (a b : Nat) (ha : a < 10) (hb : b < 10) : mv_Ev xs Ls 1 88 [.ref 28, .int (nI a), .int (nI b)] (MW A B F sw) (some (.int (bI ((nb a).testBit b))), MW A B F sw, 0, 0) := by
  refine ev_of_wp rfl rfl rfl ?_
  have hn := hM.1
  have hb2 := hM.2.2.2 a (by omega)
  refine wp_go (f' := (5, [.ref 28, .int (nI a), .int (nI b)], [.int (nI a), .ref 29], MW A B F sw, 0, 0)) 3 rfl ?_
  refine wp_iald rfl rfl (by omega) (by decide) ?_
  rw [hM.2.2.1 a (by omega)]
  refine wp_go (f' := (10, [.ref 28, .int (nI a), .int (nI b)], [.int (((nI (nb a)) >>> ((nI b) &&& 31)) &&& (nI 1))], MW A B F sw, 0, 0)) 4 rfl ?_
  rw [bx_bit (by omega) (by omega)]
  refine wp_go (f' := ((if ¬ (bI ((nb a).testBit b)) = (nI 1) then 18 else 14), [.ref 28, .int (nI a), .int (nI b)], [], MW A B F sw, 0, 0)) 2 rfl ?_
  refine wp_ite (fun h1 => ?_) (fun h1 => ?_)
  · have h1 := bI_n1 h1
    refine wp_go (f' := (19, [.ref 28, .int (nI a), .int (nI b)], [.int (nI 0)], MW A B F sw, 0, 0)) 1 rfl ?_
    rw [show bI ((nb a).testBit b) = nI 0 by simp [h1, bI, nI] <;> rfl]
    exact wp_zret rfl (by first | exact Or.inl rfl | exact Or.inr rfl)
  · have h1 := Classical.not_not.mp h1; have h1 := bI_1.mp h1
    refine wp_go (f' := (19, [.ref 28, .int (nI a), .int (nI b)], [.int (nI 1)], MW A B F sw, 0, 0)) 2 rfl ?_
    rw [show bI ((nb a).testBit b) = nI 1 by simp [h1, bI, nI] <;> rfl]
    exact wp_zret rfl (by first | exact Or.inl rfl | exact Or.inr rfl)
theorem ev_onesN {s : Nat} (hs : s < 1024) (w : mv_W) : mv_Ev xs Ls 1 97 [.int (nI s)] w (some (.int (nI (pop s))), w, 0, 0) := by
  have h := ev_ones (xs := xs) (Ls := Ls) (d := 0) (nI s) w
  rw [ones_pop s hs] at h
  exact h
theorem ev_lowest {s : Nat} (hs : s < 1024) (h0 : s ≠ 0) (w : mv_W) : mv_Ev xs Ls 1 95 [.int (nI s)] w (some (.int (nI (low s))), w, 0, 0) := by
  refine ev_of_wp rfl rfl rfl ?_
  have hl := low_lt hs h0
  refine wp_go (f' := (2, [.int (nI s), .int (nI 0)], [], w, 0, 0)) 2 rfl ?_
  refine wh_ind (P := fun (k : Nat) => k ≤ low s → mv_Wp xs Ls 0 6 false (some .int) mv_c95 (2, [.int (nI s), .int (nI k)], [], w, 0, 0) (some (.int (nI (low s))), w, 0, 0)) (fun k => 10 - k) ?_ 0 (Nat.zero_le _)
  intro k ih hk
  refine wp_go (f' := (7, [.int (nI s), .int (nI k)], [.int (((nI s) >>> ((nI k) &&& 31)) &&& (nI 1))], w, 0, 0)) 5 rfl ?_
  rw [bx_bit (by omega) (by omega)]
  refine wp_go (f' := ((if ¬ (bI (s.testBit k)) = 0 then 16 else 10), [.int (nI s), .int (nI k)], [], w, 0, 0)) 1 rfl ?_
  refine wp_ite (fun h1 => ?_) (fun h1 => ?_)
  · have h1 := bI_n0 h1
    refine wp_go (f' := (17, [.int (nI s), .int (nI k)], [.int (nI k)], w, 0, 0)) 1 rfl ?_
    have h9 : k = low s := by
      rcases Nat.lt_or_ge k (low s) with g | g
      · rw [low_min hs k g] at h1; cases h1
      · omega
    subst h9
    exact wp_iret rfl
  · have h1 := Classical.not_not.mp h1; have h1 := bI_0.mp h1
    refine wp_go (f' := (13, [.int (nI s), .int ((nI k) + 1)], [], w, 0, 0)) 1 rfl ?_
    rw [nI_1]
    refine wp_go (f' := (2, [.int (nI s), .int (nI (k + 1))], [], w, 0, 0)) 1 rfl ?_
    have h9 : k ≠ low s := fun e => by rw [e, low_bit hs h0] at h1; cases h1
    exact ih (k + 1) (by omega) (by omega)
/-- all that some vertex of s is joined to -/
def reachN (n : Nat) (nb : Nat → Nat) (s : Nat) : Nat := forN (fun k g => if s.testBit k then g ||| nb k else g) n 0
theorem forN_inv {α : Type} {I : Nat → α → Prop} {f : Nat → α → α} {n : Nat} {a : α} (h0 : I 0 a) (hs : ∀ k a, k < n → I k a → I (k + 1) (f k a)) : ∀ j, j ≤ n → I j (forN f j a) := by
  intro j
  induction j with
  | zero => intro _; exact h0
  | succ j ih => intro hj; exact hs j _ (by omega) (ih (by omega))
theorem reachN_lt (hn : n ≤ 10) (hb : ∀ v, v < 10 → nb v < 1024) (s : Nat) : reachN n nb s < 1024 := by
  refine forN_inv (I := fun _ g => g < 1024) (by decide) (fun k g hk hg => ?_) n (Nat.le_refl _)
  split
  · exact or_lt hg (hb k (by omega))
  · exact hg
theorem ev_around (hM : MI A F n nb) {s : Nat} (hs : s < 1024) : mv_Ev xs Ls 1 103 [.ref 28, .int (nI s)] (MW A B F sw) (some (.int (nI (sd (reachN n nb s) s))), MW A B F sw, 0, 0) := by
  refine ev_of_wp rfl rfl rfl ?_
  have hn := hM.1
  refine wp_go (f' := (4, [.ref 28, .int (nI s), .int (nI 0), .int (nI 0)], [], MW A B F sw, 0, 0)) 4 rfl ?_
  refine for_ind (P := fun (k : Nat) (g : Nat) => mv_Wp xs Ls 0 6 false (some .int) mv_c103 (4, [.ref 28, .int (nI s), .int (nI g), .int (nI k)], [], MW A B F sw, 0, 0) (some (.int (nI (sd (reachN n nb s) s))), MW A B F sw, 0, 0)) (f := fun k g => if s.testBit k then g ||| nb k else g) (n := n) ?_ n 0 (Nat.le_refl _) ?_
  · intro k g hk ih
    refine wp_go (f' := (9, [.ref 28, .int (nI s), .int (nI g), .int (nI k)], [.int (F 6), .int (nI k)], MW A B F sw, 0, 0)) 3 rfl ?_
    rw [hM.2.1]
    refine wp_go (f' := ((if (nI n) ≤ (nI k) then 40 else 12), [.ref 28, .int (nI s), .int (nI g), .int (nI k)], [], MW A B F sw, 0, 0)) 1 rfl ?_
    refine wp_ite (fun h9 => absurd h9 (nI_ge hk (by omega))) (fun _ => ?_)
    refine wp_go (f' := (18, [.ref 28, .int (nI s), .int (nI g), .int (nI k)], [.int (((nI s) >>> ((nI k) &&& 31)) &&& (nI 1)), .int (nI g)], MW A B F sw, 0, 0)) 6 rfl ?_
    rw [bx_bit (by omega) (by omega)]
    refine wp_go (f' := ((if ¬ (bI (s.testBit k)) = (nI 1) then 31 else 22), [.ref 28, .int (nI s), .int (nI g), .int (nI k)], [.int (nI g)], MW A B F sw, 0, 0)) 2 rfl ?_
    refine wp_ite (fun h1 => ?_) (fun h1 => ?_)
    · have h1 := bI_n1 h1
      refine wp_go (f' := (33, [.ref 28, .int (nI s), .int (nI g), .int (nI k)], [.int ((nI g) ||| (nI 0))], MW A B F sw, 0, 0)) 2 rfl ?_
      rw [bx_or]
      refine wp_go (f' := (37, [.ref 28, .int (nI s), .int (nI (g ||| 0)), .int ((nI k) + 1)], [], MW A B F sw, 0, 0)) 2 rfl ?_
      rw [nI_1]
      refine wp_go (f' := (4, [.ref 28, .int (nI s), .int (nI (g ||| 0)), .int (nI (k + 1))], [], MW A B F sw, 0, 0)) 1 rfl ?_
      refine wp_eq ?_ ih
      simp [h1]
    · have h1 := Classical.not_not.mp h1; have h1 := bI_1.mp h1
      refine wp_go (f' := (27, [.ref 28, .int (nI s), .int (nI g), .int (nI k)], [.int (nI k), .ref 29, .int (nI g)], MW A B F sw, 0, 0)) 3 rfl ?_
      refine wp_iald rfl rfl (by omega) (by decide) ?_
      rw [hM.2.2.1 k (by omega)]
      refine wp_go (f' := (33, [.ref 28, .int (nI s), .int (nI g), .int (nI k)], [.int ((nI g) ||| (nI (nb k)))], MW A B F sw, 0, 0)) 2 rfl ?_
      rw [bx_or]
      refine wp_go (f' := (37, [.ref 28, .int (nI s), .int (nI (g ||| (nb k))), .int ((nI k) + 1)], [], MW A B F sw, 0, 0)) 2 rfl ?_
      rw [nI_1]
      refine wp_go (f' := (4, [.ref 28, .int (nI s), .int (nI (g ||| (nb k))), .int (nI (k + 1))], [], MW A B F sw, 0, 0)) 1 rfl ?_
      refine wp_eq ?_ ih
      simp [h1]
  · have hr : reachN n nb s < 1024 := reachN_lt hM.1 hM.2.2.2 s
    refine wp_go (f' := (9, [.ref 28, .int (nI s), .int (nI (reachN n nb s)), .int (nI n)], [.int (F 6), .int (nI n)], MW A B F sw, 0, 0)) 3 rfl ?_
    rw [hM.2.1]
    refine wp_go (f' := ((if (nI n) ≤ (nI n) then 40 else 12), [.ref 28, .int (nI s), .int (nI (reachN n nb s)), .int (nI n)], [], MW A B F sw, 0, 0)) 1 rfl ?_
    refine wp_ite (fun _ => ?_) (fun h9 => absurd (nI_le (Nat.le_refl _) (by omega)) h9)
    refine wp_go (f' := (45, [.ref 28, .int (nI s), .int (nI (reachN n nb s)), .int (nI n)], [.int ((nI (reachN n nb s)) &&& ((nI s) ^^^ (-1)))], MW A B F sw, 0, 0)) 5 rfl ?_
    rw [bx_sd (by omega)]
    exact wp_iret rfl
end MM
