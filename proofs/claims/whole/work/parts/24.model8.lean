/-- what is left without s hangs together, and s isn't all -/
def restN (n : Nat) (nb : Nat → Nat) (s : Nat) : Bool := wholeN n nb (sd (2 ^ n - 1) s) && (decide (¬ s = 2 ^ n - 1) || decide (n = 0))
/-- the sets of a best, by what -/
def goodN (n : Nat) (nb : Nat → Nat) (w : Nat) (s : Nat) : Bool := match w with
  | 0 => apartN n nb s
  | 1 => nearAllN n nb s
  | 2 => apartN n nb (sd (2 ^ n - 1) s)
  | 3 => cliqueN n nb s
  | _ => restN n nb s
/-- seeking through all sets: the best weight and its set -/
def seekN (G : Nat → Bool) (W : Nat → Nat) (least : Bool) (N : Nat) : Int32 × Int32 := forN (fun s q => if G s = true ∧ (q.2 = -1 ∨ (if least = true then nI (W s) < q.1 else q.1 < nI (W s))) then (nI (W s), nI s) else q) N (-1, -1)
theorem pop_pos {s : Nat} (hs : s < 1024) (h0 : s ≠ 0) : 1 ≤ pop s := by
  have h : ∀ s, s < 1024 → s ≠ 0 → 1 ≤ pop s := by decide +kernel
  exact h s hs h0
section MM
variable {xs : Nat → Int32} {Ls : Nat} {A : Nat → Nat → Int32} {B : Nat → Nat → Int64} {F : Nat → Int32} {sw : Bool} {n : Nat} {nb : Nat → Nat}
theorem ev_isGood0 (hM : MI A F n nb) {s : Nat} (hs : s < 1024) : mv_Ev xs Ls 3 133 [.ref 28, .int (nI 0), .int (nI s)] (MW A B F sw) (some (.int (bI (goodN n nb 0 s))), MW A B F sw, 0, 0) := by
  refine ev_of_wp rfl rfl rfl ?_
  have hn := hM.1
  have hp := pow10 hn
  have hp1 : 1 ≤ 2 ^ n := Nat.one_le_two_pow
  have hal := all_lt hn
  show mv_Wp _ _ _ _ _ _ _ _ (some (.int (bI (apartN n nb s))), _, _, _)
  refine wp_go (f' := (34, [.ref 28, .int (nI 0), .int (nI s)], [.int (nI s), .ref 28], MW A B F sw, 0, 0)) 4 rfl ?_
  refine wp_call rfl rfl rfl (ev_up (ev_isApart hM (s := s) (by omega)) (by decide)) ?_
  refine wp_eq (f' := (37, [.ref 28, .int (nI 0), .int (nI s)], [.int (bI (apartN n nb s))], MW A B F sw, 0, 0)) rfl ?_
  exact wp_zret rfl (bI_01 _)
theorem ev_isGood1 (hM : MI A F n nb) {s : Nat} (hs : s < 1024) : mv_Ev xs Ls 3 133 [.ref 28, .int (nI 1), .int (nI s)] (MW A B F sw) (some (.int (bI (goodN n nb 1 s))), MW A B F sw, 0, 0) := by
  refine ev_of_wp rfl rfl rfl ?_
  have hn := hM.1
  have hp := pow10 hn
  have hp1 : 1 ≤ 2 ^ n := Nat.one_le_two_pow
  have hal := all_lt hn
  show mv_Wp _ _ _ _ _ _ _ _ (some (.int (bI (nearAllN n nb s))), _, _, _)
  refine wp_go (f' := (40, [.ref 28, .int (nI 1), .int (nI s)], [.int (nI s), .ref 28], MW A B F sw, 0, 0)) 4 rfl ?_
  refine wp_call rfl rfl rfl (ev_up (ev_isNearAll hM (s := s) (by omega)) (by decide)) ?_
  refine wp_eq (f' := (43, [.ref 28, .int (nI 1), .int (nI s)], [.int (bI (nearAllN n nb s))], MW A B F sw, 0, 0)) rfl ?_
  exact wp_zret rfl (bI_01 _)
theorem ev_isGood2 (hM : MI A F n nb) {s : Nat} (hs : s < 1024) : mv_Ev xs Ls 3 133 [.ref 28, .int (nI 2), .int (nI s)] (MW A B F sw) (some (.int (bI (goodN n nb 2 s))), MW A B F sw, 0, 0) := by
  refine ev_of_wp rfl rfl rfl ?_
  have hn := hM.1
  have hp := pow10 hn
  have hp1 : 1 ≤ 2 ^ n := Nat.one_le_two_pow
  have hal := all_lt hn
  show mv_Wp _ _ _ _ _ _ _ _ (some (.int (bI (apartN n nb (sd (2 ^ n - 1) s)))), _, _, _)
  refine wp_go (f' := (46, [.ref 28, .int (nI 2), .int (nI s)], [.int (nI s), .ref 28], MW A B F sw, 0, 0)) 4 rfl ?_
  refine wp_call rfl rfl rfl (ev_up (ev_isCover hM (s := s) (by omega)) (by decide)) ?_
  refine wp_eq (f' := (49, [.ref 28, .int (nI 2), .int (nI s)], [.int (bI (apartN n nb (sd (2 ^ n - 1) s)))], MW A B F sw, 0, 0)) rfl ?_
  exact wp_zret rfl (bI_01 _)
theorem ev_isGood3 (hM : MI A F n nb) {s : Nat} (hs : s < 1024) : mv_Ev xs Ls 3 133 [.ref 28, .int (nI 3), .int (nI s)] (MW A B F sw) (some (.int (bI (goodN n nb 3 s))), MW A B F sw, 0, 0) := by
  refine ev_of_wp rfl rfl rfl ?_
  have hn := hM.1
  have hp := pow10 hn
  have hp1 : 1 ≤ 2 ^ n := Nat.one_le_two_pow
  have hal := all_lt hn
  show mv_Wp _ _ _ _ _ _ _ _ (some (.int (bI (cliqueN n nb s))), _, _, _)
  refine wp_go (f' := (52, [.ref 28, .int (nI 3), .int (nI s)], [.int (nI s), .ref 28], MW A B F sw, 0, 0)) 4 rfl ?_
  refine wp_call rfl rfl rfl (ev_up (ev_isClique hM (s := s) (by omega)) (by decide)) ?_
  refine wp_eq (f' := (55, [.ref 28, .int (nI 3), .int (nI s)], [.int (bI (cliqueN n nb s))], MW A B F sw, 0, 0)) rfl ?_
  exact wp_zret rfl (bI_01 _)
theorem ev_isGood4 (hM : MI A F n nb) {s : Nat} (hs : s < 1024) : mv_Ev xs Ls 3 133 [.ref 28, .int (nI 4), .int (nI s)] (MW A B F sw) (some (.int (bI (goodN n nb 4 s))), MW A B F sw, 0, 0) := by
  refine ev_of_wp rfl rfl rfl ?_
  have hn := hM.1
  have hp := pow10 hn
  have hp1 : 1 ≤ 2 ^ n := Nat.one_le_two_pow
  have hal := all_lt hn
  show mv_Wp _ _ _ _ _ _ _ _ (some (.int (bI (restN n nb s))), _, _, _)
  refine wp_go (f' := (58, [.ref 28, .int (nI 4), .int (nI s)], [.ref 28, .ref 28], MW A B F sw, 0, 0)) 4 rfl ?_
  refine wp_call rfl rfl rfl (ev_up (ev_all hM) (by decide)) ?_
  refine wp_eq (f' := (61, [.ref 28, .int (nI 4), .int (nI s)], [.int (nI (2 ^ n - 1)), .ref 28], MW A B F sw, 0, 0)) rfl ?_
  refine wp_go (f' := (65, [.ref 28, .int (nI 4), .int (nI s)], [.int ((nI (2 ^ n - 1)) &&& ((nI s) ^^^ (-1))), .ref 28], MW A B F sw, 0, 0)) 4 rfl ?_
  rw [bx_sd (by omega)]
  have hb1 : sd (2 ^ n - 1) s < 1024 := by first | omega | exact or_lt (by omega) (by omega) | exact and_lt (by omega) | exact and_lt_r (by omega) | exact sd_lt (by omega) | exact pow_lt (by omega)
  refine wp_call rfl rfl rfl (ev_up (ev_isWhole hM (s := sd (2 ^ n - 1) s) (by omega)) (by decide)) ?_
  refine wp_eq (f' := (68, [.ref 28, .int (nI 4), .int (nI s)], [.int (bI (wholeN n nb (sd (2 ^ n - 1) s)))], MW A B F sw, 0, 0)) rfl ?_
  refine wp_go (f' := ((if (bI (wholeN n nb (sd (2 ^ n - 1) s))) = 0 then 90 else 71), [.ref 28, .int (nI 4), .int (nI s)], [], MW A B F sw, 0, 0)) 1 rfl ?_
  refine wp_ite (fun h1 => ?_) (fun h1 => ?_)
  · have h1 := bI_0.mp h1
    refine wp_go (f' := (91, [.ref 28, .int (nI 4), .int (nI s)], [.int (nI 0)], MW A B F sw, 0, 0)) 1 rfl ?_
    rw [show bI (restN n nb s) = nI 0 by unfold restN; rw [h1]; simp [bIT, bIF, nI1, nI0]]
    exact wp_zret rfl (by first | exact Or.inl rfl | exact Or.inr rfl)
  · have h1 := bI_n0 h1
    refine wp_go (f' := (73, [.ref 28, .int (nI 4), .int (nI s)], [.ref 28, .int (nI s)], MW A B F sw, 0, 0)) 2 rfl ?_
    refine wp_call rfl rfl rfl (ev_up (ev_all hM) (by decide)) ?_
    refine wp_eq (f' := (76, [.ref 28, .int (nI 4), .int (nI s)], [.int (nI (2 ^ n - 1)), .int (nI s)], MW A B F sw, 0, 0)) rfl ?_
    refine wp_go (f' := ((if ¬ (nI s) = (nI (2 ^ n - 1)) then 86 else 79), [.ref 28, .int (nI 4), .int (nI s)], [], MW A B F sw, 0, 0)) 1 rfl ?_
    refine wp_ite (fun h2 => ?_) (fun h2 => ?_)
    · have h2 : ¬ (s = 2 ^ n - 1) := fun h9 => h2 ((nI_eq (a := s) (b := 2 ^ n - 1) (by omega) (by omega)).mpr h9)
      refine wp_go (f' := (91, [.ref 28, .int (nI 4), .int (nI s)], [.int (nI 1)], MW A B F sw, 0, 0)) 2 rfl ?_
      rw [show bI (restN n nb s) = nI 1 by unfold restN; rw [h1]; simp [h2, bIT, bIF, nI1, nI0]]
      exact wp_zret rfl (by first | exact Or.inl rfl | exact Or.inr rfl)
    · have h2 := Classical.not_not.mp h2; have h2 : s = 2 ^ n - 1 := (nI_eq (a := s) (b := 2 ^ n - 1) (by omega) (by omega)).mp h2
      refine wp_go (f' := (83, [.ref 28, .int (nI 4), .int (nI s)], [.int (F 6)], MW A B F sw, 0, 0)) 2 rfl ?_
      rw [hM.2.1]
      refine wp_go (f' := ((if ¬ (nI n) = 0 then 90 else 86), [.ref 28, .int (nI 4), .int (nI s)], [], MW A B F sw, 0, 0)) 1 rfl ?_
      refine wp_ite (fun h3 => ?_) (fun h3 => ?_)
      · have h3 : ¬ (n = 0) := fun h9 => h3 ((nI_eq (a := n) (b := 0) (by omega) (by omega)).mpr h9)
        refine wp_go (f' := (91, [.ref 28, .int (nI 4), .int (nI s)], [.int (nI 0)], MW A B F sw, 0, 0)) 1 rfl ?_
        rw [show bI (restN n nb s) = nI 0 by unfold restN; rw [h1]; simp [h2, h3, bIT, bIF, nI1, nI0]]
        exact wp_zret rfl (by first | exact Or.inl rfl | exact Or.inr rfl)
      · have h3 := Classical.not_not.mp h3; have h3 : n = 0 := (nI_eq (a := n) (b := 0) (by omega) (by omega)).mp h3
        refine wp_go (f' := (91, [.ref 28, .int (nI 4), .int (nI s)], [.int (nI 1)], MW A B F sw, 0, 0)) 2 rfl ?_
        rw [show bI (restN n nb s) = nI 1 by unfold restN; rw [h1]; simp [h2, h3, bIT, bIF, nI1, nI0]]
        exact wp_zret rfl (by first | exact Or.inl rfl | exact Or.inr rfl)
theorem ev_seek0 (hM : MI A F n nb) {wt : Nat → Nat} (hw : MWt A wt) : mv_Ev xs Ls 4 132 [.ref 28, .int (nI 0)] (MW A B F sw) (some (.int ((seekN (goodN n nb 0) (weightN n wt) false (2 ^ n)).1)), MW A B (upF F 8 (seekN (goodN n nb 0) (weightN n wt) false (2 ^ n)).2) sw, 0, 0) := by
  refine ev_of_wp rfl rfl rfl ?_
  have hn := hM.1
  have hp := pow10 hn
  have hp1 : 1 ≤ 2 ^ n := Nat.one_le_two_pow
  have hal := all_lt hn
  refine wp_go (f' := ((if (nI 0) = (nI 1) then 10 else 5), [.ref 28, .int (nI 0), .retAddr 0, .retAddr 0, .retAddr 0, .retAddr 0], [], MW A B F sw, 0, 0)) 3 rfl ?_
  refine wp_ite (fun h9 => absurd h9 (by decide : ¬ nI 0 = nI 1)) (fun _ => ?_)
  refine wp_go (f' := ((if ¬ (nI 0) = (nI 2) then 14 else 10), [.ref 28, .int (nI 0), .retAddr 0, .retAddr 0, .retAddr 0, .retAddr 0], [], MW A B F sw, 0, 0)) 3 rfl ?_
  refine wp_ite (fun _ => ?_) (fun h9 => absurd (by decide : ¬ nI 0 = nI 2) h9)
  refine wp_go (f' := (26, [.ref 28, .int (nI 0), .int (nI 0), .int (-1), .int (nI 0), .retAddr 0], [], MW A B (upF F 8 (-1)) sw, 0, 0)) 9 rfl ?_
  refine for_ind (P := fun (k : Nat) (q : Int32 × Int32) => ∀ (d5 : Value), mv_Wp xs Ls 3 6 false (some .int) mv_c132 (26, [.ref 28, .int (nI 0), .int (nI 0), .int q.1, .int (nI k), d5], [], MW A B (upF F 8 q.2) sw, 0, 0) (some (.int ((seekN (goodN n nb 0) (weightN n wt) false (2 ^ n)).1)), MW A B (upF F 8 (seekN (goodN n nb 0) (weightN n wt) false (2 ^ n)).2) sw, 0, 0)) (f := fun k q => if goodN n nb 0 k = true ∧ (q.2 = -1 ∨ (if false = true then nI (weightN n wt k) < q.1 else q.1 < nI (weightN n wt k))) then (nI (weightN n wt k), nI k) else q) (n := (2 ^ n)) ?_ (2 ^ n) ((-1 : Int32), (-1 : Int32)) (Nat.le_refl _) ?_  (.retAddr 0)
  · intro k q hk ih  d5
    have hM := (show MI A (upF F 8 q.2) n nb from hM)
    refine wp_go (f' := (29, [.ref 28, .int (nI 0), .int (nI 0), .int q.1, .int (nI k), d5], [.ref 28, .int (nI k)], MW A B (upF F 8 q.2) sw, 0, 0)) 2 rfl ?_
    refine wp_call rfl rfl rfl (ev_up (ev_all hM) (by decide)) ?_
    refine wp_eq (f' := (32, [.ref 28, .int (nI 0), .int (nI 0), .int q.1, .int (nI k), d5], [.int (nI (2 ^ n - 1)), .int (nI k)], MW A B (upF F 8 q.2) sw, 0, 0)) rfl ?_
    refine wp_go (f' := ((if (nI (2 ^ n - 1)) < (nI k) then 95 else 35), [.ref 28, .int (nI 0), .int (nI 0), .int q.1, .int (nI k), d5], [], MW A B (upF F 8 q.2) sw, 0, 0)) 1 rfl ?_
    refine wp_ite (fun h9 => absurd h9 (nI_nlt (by omega) (by omega))) (fun _ => ?_)
    refine wp_go (f' := (39, [.ref 28, .int (nI 0), .int (nI 0), .int q.1, .int (nI k), d5], [.int (nI k), .int (nI 0), .ref 28], MW A B (upF F 8 q.2) sw, 0, 0)) 3 rfl ?_
    refine wp_call rfl rfl rfl (ev_up (ev_isGood0 hM (s := k) (by omega)) (by decide)) ?_
    refine wp_eq (f' := (42, [.ref 28, .int (nI 0), .int (nI 0), .int q.1, .int (nI k), d5], [.int (bI (goodN n nb 0 k))], MW A B (upF F 8 q.2) sw, 0, 0)) rfl ?_
    refine wp_go (f' := ((if (bI (goodN n nb 0 k)) = 0 then 89 else 45), [.ref 28, .int (nI 0), .int (nI 0), .int q.1, .int (nI k), d5], [], MW A B (upF F 8 q.2) sw, 0, 0)) 1 rfl ?_
    refine wp_ite (fun h1 => ?_) (fun h1 => ?_)
    · have h1 := bI_0.mp h1
      refine wp_go (f' := (92, [.ref 28, .int (nI 0), .int (nI 0), .int q.1, .int ((nI k) + 1), d5], [], MW A B (upF F 8 q.2) sw, 0, 0)) 1 rfl ?_
      rw [nI_1]
      refine wp_go (f' := (26, [.ref 28, .int (nI 0), .int (nI 0), .int q.1, .int (nI (k + 1)), d5], [], MW A B (upF F 8 q.2) sw, 0, 0)) 1 rfl ?_
      refine wp_eq ?_ (ih d5)
      simp [h1]
    · have h1 := bI_n0 h1
      refine wp_go (f' := (48, [.ref 28, .int (nI 0), .int (nI 0), .int q.1, .int (nI k), d5], [.int (nI k), .ref 28], MW A B (upF F 8 q.2) sw, 0, 0)) 2 rfl ?_
      refine wp_call rfl rfl rfl (ev_up (ev_weightOf hM (s := k) (by omega) hw) (by decide)) ?_
      refine wp_eq (f' := (51, [.ref 28, .int (nI 0), .int (nI 0), .int q.1, .int (nI k), d5], [.int (nI (weightN n wt k))], MW A B (upF F 8 q.2) sw, 0, 0)) rfl ?_
      refine wp_go (f' := ((if q.2 = (-1) then 80 else 61), [.ref 28, .int (nI 0), .int (nI 0), .int q.1, .int (nI k), .int (nI (weightN n wt k))], [], MW A B (upF F 8 q.2) sw, 0, 0)) 5 rfl ?_
      refine wp_ite (fun h2 => ?_) (fun h2 => ?_)
      · skip
        refine wp_go (f' := (92, [.ref 28, .int (nI 0), .int (nI 0), .int (nI (weightN n wt k)), .int ((nI k) + 1), .int (nI (weightN n wt k))], [], MW A B (upF F 8 (nI k)) sw, 0, 0)) 6 rfl ?_
        rw [nI_1]
        refine wp_go (f' := (26, [.ref 28, .int (nI 0), .int (nI 0), .int (nI (weightN n wt k)), .int (nI (k + 1)), .int (nI (weightN n wt k))], [], MW A B (upF F 8 (nI k)) sw, 0, 0)) 1 rfl ?_
        refine wp_eq ?_ (ih (.int (nI (weightN n wt k))))
        simp [h1, h2]
      · skip
        refine wp_go (f' := ((if (nI 0) = 0 then 74 else 65), [.ref 28, .int (nI 0), .int (nI 0), .int q.1, .int (nI k), .int (nI (weightN n wt k))], [], MW A B (upF F 8 q.2) sw, 0, 0)) 2 rfl ?_
        refine wp_ite (fun _ => ?_) (fun h9 => absurd (rfl : nI 0 = 0) h9)
        refine wp_go (f' := ((if (nI (weightN n wt k)) ≤ q.1 then 89 else 80), [.ref 28, .int (nI 0), .int (nI 0), .int q.1, .int (nI k), .int (nI (weightN n wt k))], [], MW A B (upF F 8 q.2) sw, 0, 0)) 3 rfl ?_
        refine wp_ite (fun h3 => ?_) (fun h3 => ?_)
        · skip
          refine wp_go (f' := (92, [.ref 28, .int (nI 0), .int (nI 0), .int q.1, .int ((nI k) + 1), .int (nI (weightN n wt k))], [], MW A B (upF F 8 q.2) sw, 0, 0)) 1 rfl ?_
          rw [nI_1]
          refine wp_go (f' := (26, [.ref 28, .int (nI 0), .int (nI 0), .int q.1, .int (nI (k + 1)), .int (nI (weightN n wt k))], [], MW A B (upF F 8 q.2) sw, 0, 0)) 1 rfl ?_
          refine wp_eq ?_ (ih (.int (nI (weightN n wt k))))
          simp [h1, h2, Int32.not_lt.mpr h3]
        · skip
          refine wp_go (f' := (92, [.ref 28, .int (nI 0), .int (nI 0), .int (nI (weightN n wt k)), .int ((nI k) + 1), .int (nI (weightN n wt k))], [], MW A B (upF F 8 (nI k)) sw, 0, 0)) 6 rfl ?_
          rw [nI_1]
          refine wp_go (f' := (26, [.ref 28, .int (nI 0), .int (nI 0), .int (nI (weightN n wt k)), .int (nI (k + 1)), .int (nI (weightN n wt k))], [], MW A B (upF F 8 (nI k)) sw, 0, 0)) 1 rfl ?_
          refine wp_eq ?_ (ih (.int (nI (weightN n wt k))))
          simp [h1, h2, Int32.not_le.mp h3]
  · intro  d5
    have hM := (show MI A (upF F 8 (seekN (goodN n nb 0) (weightN n wt) false (2 ^ n)).2) n nb from hM)
    refine wp_go (f' := (29, [.ref 28, .int (nI 0), .int (nI 0), .int ((seekN (goodN n nb 0) (weightN n wt) false (2 ^ n)).1), .int (nI (2 ^ n)), d5], [.ref 28, .int (nI (2 ^ n))], MW A B (upF F 8 (seekN (goodN n nb 0) (weightN n wt) false (2 ^ n)).2) sw, 0, 0)) 2 rfl ?_
    refine wp_call rfl rfl rfl (ev_up (ev_all hM) (by decide)) ?_
    refine wp_eq (f' := (32, [.ref 28, .int (nI 0), .int (nI 0), .int ((seekN (goodN n nb 0) (weightN n wt) false (2 ^ n)).1), .int (nI (2 ^ n)), d5], [.int (nI (2 ^ n - 1)), .int (nI (2 ^ n))], MW A B (upF F 8 (seekN (goodN n nb 0) (weightN n wt) false (2 ^ n)).2) sw, 0, 0)) rfl ?_
    refine wp_go (f' := ((if (nI (2 ^ n - 1)) < (nI (2 ^ n)) then 95 else 35), [.ref 28, .int (nI 0), .int (nI 0), .int ((seekN (goodN n nb 0) (weightN n wt) false (2 ^ n)).1), .int (nI (2 ^ n)), d5], [], MW A B (upF F 8 (seekN (goodN n nb 0) (weightN n wt) false (2 ^ n)).2) sw, 0, 0)) 1 rfl ?_
    refine wp_ite (fun _ => ?_) (fun h9 => absurd (nI_lt (by omega) (by omega)) h9)
    refine wp_go (f' := (96, [.ref 28, .int (nI 0), .int (nI 0), .int ((seekN (goodN n nb 0) (weightN n wt) false (2 ^ n)).1), .int (nI (2 ^ n)), d5], [.int ((seekN (goodN n nb 0) (weightN n wt) false (2 ^ n)).1)], MW A B (upF F 8 (seekN (goodN n nb 0) (weightN n wt) false (2 ^ n)).2) sw, 0, 0)) 1 rfl ?_
    exact wp_iret rfl
theorem ev_best0 (hM : MI A F n nb) {wt : Nat → Nat} (hw : MWt A wt) : mv_Ev xs Ls 5 131 [.ref 28, .int (nI 0)] (MW A B F sw) (some (.int ((seekN (goodN n nb 0) (weightN n wt) false (2 ^ n)).1)), MW A B (upF F 8 (seekN (goodN n nb 0) (weightN n wt) false (2 ^ n)).2) sw, 0, 0) := by
  refine ev_of_wp rfl rfl rfl ?_
  refine wp_go (f' := (3, [.ref 28, .int (nI 0)], [.int (nI 4), .int (nI 0), .int (nI 0)], MW A B F sw, 0, 0)) 3 rfl ?_
  refine wp_call rfl rfl rfl (ev_up (ev_isIn (nI 0) (nI 0) (nI 4) _) (by decide)) ?_
  refine wp_eq (f' := (6, [.ref 28, .int (nI 0)], [.int (bI (decide ((nI 0) ≤ (nI 0)) && decide ((nI 0) ≤ (nI 4))))], MW A B F sw, 0, 0)) rfl ?_
  refine wp_go (f' := ((if (bI (decide ((nI 0) ≤ (nI 0)) && decide ((nI 0) ≤ (nI 4)))) = 0 then 17 else 9), [.ref 28, .int (nI 0)], [], MW A B F sw, 0, 0)) 1 rfl ?_
  refine wp_ite (fun h9 => absurd h9 (by decide : ¬ bI (decide ((nI 0) ≤ (nI 0)) && decide ((nI 0) ≤ (nI 4))) = 0)) (fun _ => ?_)
  refine wp_go (f' := (11, [.ref 28, .int (nI 0)], [.int (nI 0), .ref 28], MW A B F sw, 0, 0)) 2 rfl ?_
  refine wp_call rfl rfl rfl (ev_up (ev_seek0 hM hw) (by decide)) ?_
  refine wp_eq (f' := (14, [.ref 28, .int (nI 0)], [.int ((seekN (goodN n nb 0) (weightN n wt) false (2 ^ n)).1)], MW A B (upF F 8 (seekN (goodN n nb 0) (weightN n wt) false (2 ^ n)).2) sw, 0, 0)) rfl ?_
  refine wp_go (f' := (19, [.ref 28, .int (nI 0)], [.int ((seekN (goodN n nb 0) (weightN n wt) false (2 ^ n)).1)], MW A B (upF F 8 (seekN (goodN n nb 0) (weightN n wt) false (2 ^ n)).2) sw, 0, 0)) 1 rfl ?_
  exact wp_iret rfl
theorem ev_which0 (hM : MI A F n nb) {wt : Nat → Nat} (hw : MWt A wt) : mv_Ev xs Ls 5 136 [.ref 28, .int (nI 0)] (MW A B F sw) (some (.int ((seekN (goodN n nb 0) (weightN n wt) false (2 ^ n)).2)), MW A B (upF F 8 (seekN (goodN n nb 0) (weightN n wt) false (2 ^ n)).2) sw, 0, 0) := by
  refine ev_of_wp rfl rfl rfl ?_
  refine wp_go (f' := (3, [.ref 28, .int (nI 0)], [.int (nI 4), .int (nI 0), .int (nI 0)], MW A B F sw, 0, 0)) 3 rfl ?_
  refine wp_call rfl rfl rfl (ev_up (ev_isIn (nI 0) (nI 0) (nI 4) _) (by decide)) ?_
  refine wp_eq (f' := (6, [.ref 28, .int (nI 0)], [.int (bI (decide ((nI 0) ≤ (nI 0)) && decide ((nI 0) ≤ (nI 4))))], MW A B F sw, 0, 0)) rfl ?_
  refine wp_go (f' := ((if ¬ (bI (decide ((nI 0) ≤ (nI 0)) && decide ((nI 0) ≤ (nI 4)))) = 0 then 12 else 9), [.ref 28, .int (nI 0)], [], MW A B F sw, 0, 0)) 1 rfl ?_
  refine wp_ite (fun _ => ?_) (fun h9 => absurd (by decide : ¬ bI (decide ((nI 0) ≤ (nI 0)) && decide ((nI 0) ≤ (nI 4))) = 0) h9)
  refine wp_go (f' := (14, [.ref 28, .int (nI 0)], [.int (nI 0), .ref 28], MW A B F sw, 0, 0)) 2 rfl ?_
  refine wp_call rfl rfl rfl (ev_up (ev_seek0 hM hw) (by decide)) ?_
  refine wp_eq (f' := (17, [.ref 28, .int (nI 0)], [.int ((seekN (goodN n nb 0) (weightN n wt) false (2 ^ n)).1)], MW A B (upF F 8 (seekN (goodN n nb 0) (weightN n wt) false (2 ^ n)).2) sw, 0, 0)) rfl ?_
  refine wp_go (f' := (22, [.ref 28, .int (nI 0)], [.int ((seekN (goodN n nb 0) (weightN n wt) false (2 ^ n)).2)], MW A B (upF F 8 (seekN (goodN n nb 0) (weightN n wt) false (2 ^ n)).2) sw, 0, 0)) 3 rfl ?_
  exact wp_iret rfl
theorem ev_seek1 (hM : MI A F n nb) {wt : Nat → Nat} (hw : MWt A wt) : mv_Ev xs Ls 4 132 [.ref 28, .int (nI 1)] (MW A B F sw) (some (.int ((seekN (goodN n nb 1) (weightN n wt) true (2 ^ n)).1)), MW A B (upF F 8 (seekN (goodN n nb 1) (weightN n wt) true (2 ^ n)).2) sw, 0, 0) := by
  refine ev_of_wp rfl rfl rfl ?_
  have hn := hM.1
  have hp := pow10 hn
  have hp1 : 1 ≤ 2 ^ n := Nat.one_le_two_pow
  have hal := all_lt hn
  refine wp_go (f' := ((if (nI 1) = (nI 1) then 10 else 5), [.ref 28, .int (nI 1), .retAddr 0, .retAddr 0, .retAddr 0, .retAddr 0], [], MW A B F sw, 0, 0)) 3 rfl ?_
  refine wp_ite (fun _ => ?_) (fun h9 => absurd (rfl : nI 1 = nI 1) h9)
  refine wp_go (f' := (26, [.ref 28, .int (nI 1), .int (nI 1), .int (-1), .int (nI 0), .retAddr 0], [], MW A B (upF F 8 (-1)) sw, 0, 0)) 10 rfl ?_
  refine for_ind (P := fun (k : Nat) (q : Int32 × Int32) => ∀ (d5 : Value), mv_Wp xs Ls 3 6 false (some .int) mv_c132 (26, [.ref 28, .int (nI 1), .int (nI 1), .int q.1, .int (nI k), d5], [], MW A B (upF F 8 q.2) sw, 0, 0) (some (.int ((seekN (goodN n nb 1) (weightN n wt) true (2 ^ n)).1)), MW A B (upF F 8 (seekN (goodN n nb 1) (weightN n wt) true (2 ^ n)).2) sw, 0, 0)) (f := fun k q => if goodN n nb 1 k = true ∧ (q.2 = -1 ∨ (if true = true then nI (weightN n wt k) < q.1 else q.1 < nI (weightN n wt k))) then (nI (weightN n wt k), nI k) else q) (n := (2 ^ n)) ?_ (2 ^ n) ((-1 : Int32), (-1 : Int32)) (Nat.le_refl _) ?_  (.retAddr 0)
  · intro k q hk ih  d5
    have hM := (show MI A (upF F 8 q.2) n nb from hM)
    refine wp_go (f' := (29, [.ref 28, .int (nI 1), .int (nI 1), .int q.1, .int (nI k), d5], [.ref 28, .int (nI k)], MW A B (upF F 8 q.2) sw, 0, 0)) 2 rfl ?_
    refine wp_call rfl rfl rfl (ev_up (ev_all hM) (by decide)) ?_
    refine wp_eq (f' := (32, [.ref 28, .int (nI 1), .int (nI 1), .int q.1, .int (nI k), d5], [.int (nI (2 ^ n - 1)), .int (nI k)], MW A B (upF F 8 q.2) sw, 0, 0)) rfl ?_
    refine wp_go (f' := ((if (nI (2 ^ n - 1)) < (nI k) then 95 else 35), [.ref 28, .int (nI 1), .int (nI 1), .int q.1, .int (nI k), d5], [], MW A B (upF F 8 q.2) sw, 0, 0)) 1 rfl ?_
    refine wp_ite (fun h9 => absurd h9 (nI_nlt (by omega) (by omega))) (fun _ => ?_)
    refine wp_go (f' := (39, [.ref 28, .int (nI 1), .int (nI 1), .int q.1, .int (nI k), d5], [.int (nI k), .int (nI 1), .ref 28], MW A B (upF F 8 q.2) sw, 0, 0)) 3 rfl ?_
    refine wp_call rfl rfl rfl (ev_up (ev_isGood1 hM (s := k) (by omega)) (by decide)) ?_
    refine wp_eq (f' := (42, [.ref 28, .int (nI 1), .int (nI 1), .int q.1, .int (nI k), d5], [.int (bI (goodN n nb 1 k))], MW A B (upF F 8 q.2) sw, 0, 0)) rfl ?_
    refine wp_go (f' := ((if (bI (goodN n nb 1 k)) = 0 then 89 else 45), [.ref 28, .int (nI 1), .int (nI 1), .int q.1, .int (nI k), d5], [], MW A B (upF F 8 q.2) sw, 0, 0)) 1 rfl ?_
    refine wp_ite (fun h1 => ?_) (fun h1 => ?_)
    · have h1 := bI_0.mp h1
      refine wp_go (f' := (92, [.ref 28, .int (nI 1), .int (nI 1), .int q.1, .int ((nI k) + 1), d5], [], MW A B (upF F 8 q.2) sw, 0, 0)) 1 rfl ?_
      rw [nI_1]
      refine wp_go (f' := (26, [.ref 28, .int (nI 1), .int (nI 1), .int q.1, .int (nI (k + 1)), d5], [], MW A B (upF F 8 q.2) sw, 0, 0)) 1 rfl ?_
      refine wp_eq ?_ (ih d5)
      simp [h1]
    · have h1 := bI_n0 h1
      refine wp_go (f' := (48, [.ref 28, .int (nI 1), .int (nI 1), .int q.1, .int (nI k), d5], [.int (nI k), .ref 28], MW A B (upF F 8 q.2) sw, 0, 0)) 2 rfl ?_
      refine wp_call rfl rfl rfl (ev_up (ev_weightOf hM (s := k) (by omega) hw) (by decide)) ?_
      refine wp_eq (f' := (51, [.ref 28, .int (nI 1), .int (nI 1), .int q.1, .int (nI k), d5], [.int (nI (weightN n wt k))], MW A B (upF F 8 q.2) sw, 0, 0)) rfl ?_
      refine wp_go (f' := ((if q.2 = (-1) then 80 else 61), [.ref 28, .int (nI 1), .int (nI 1), .int q.1, .int (nI k), .int (nI (weightN n wt k))], [], MW A B (upF F 8 q.2) sw, 0, 0)) 5 rfl ?_
      refine wp_ite (fun h2 => ?_) (fun h2 => ?_)
      · skip
        refine wp_go (f' := (92, [.ref 28, .int (nI 1), .int (nI 1), .int (nI (weightN n wt k)), .int ((nI k) + 1), .int (nI (weightN n wt k))], [], MW A B (upF F 8 (nI k)) sw, 0, 0)) 6 rfl ?_
        rw [nI_1]
        refine wp_go (f' := (26, [.ref 28, .int (nI 1), .int (nI 1), .int (nI (weightN n wt k)), .int (nI (k + 1)), .int (nI (weightN n wt k))], [], MW A B (upF F 8 (nI k)) sw, 0, 0)) 1 rfl ?_
        refine wp_eq ?_ (ih (.int (nI (weightN n wt k))))
        simp [h1, h2]
      · skip
        refine wp_go (f' := ((if (nI 1) = 0 then 74 else 65), [.ref 28, .int (nI 1), .int (nI 1), .int q.1, .int (nI k), .int (nI (weightN n wt k))], [], MW A B (upF F 8 q.2) sw, 0, 0)) 2 rfl ?_
        refine wp_ite (fun h9 => absurd h9 (by decide : ¬ nI 1 = 0)) (fun _ => ?_)
        refine wp_go (f' := ((if q.1 ≤ (nI (weightN n wt k)) then 89 else 71), [.ref 28, .int (nI 1), .int (nI 1), .int q.1, .int (nI k), .int (nI (weightN n wt k))], [], MW A B (upF F 8 q.2) sw, 0, 0)) 3 rfl ?_
        refine wp_ite (fun h3 => ?_) (fun h3 => ?_)
        · skip
          refine wp_go (f' := (92, [.ref 28, .int (nI 1), .int (nI 1), .int q.1, .int ((nI k) + 1), .int (nI (weightN n wt k))], [], MW A B (upF F 8 q.2) sw, 0, 0)) 1 rfl ?_
          rw [nI_1]
          refine wp_go (f' := (26, [.ref 28, .int (nI 1), .int (nI 1), .int q.1, .int (nI (k + 1)), .int (nI (weightN n wt k))], [], MW A B (upF F 8 q.2) sw, 0, 0)) 1 rfl ?_
          refine wp_eq ?_ (ih (.int (nI (weightN n wt k))))
          simp [h1, h2, Int32.not_lt.mpr h3]
        · skip
          refine wp_go (f' := (92, [.ref 28, .int (nI 1), .int (nI 1), .int (nI (weightN n wt k)), .int ((nI k) + 1), .int (nI (weightN n wt k))], [], MW A B (upF F 8 (nI k)) sw, 0, 0)) 7 rfl ?_
          rw [nI_1]
          refine wp_go (f' := (26, [.ref 28, .int (nI 1), .int (nI 1), .int (nI (weightN n wt k)), .int (nI (k + 1)), .int (nI (weightN n wt k))], [], MW A B (upF F 8 (nI k)) sw, 0, 0)) 1 rfl ?_
          refine wp_eq ?_ (ih (.int (nI (weightN n wt k))))
          simp [h1, h2, Int32.not_le.mp h3]
  · intro  d5
    have hM := (show MI A (upF F 8 (seekN (goodN n nb 1) (weightN n wt) true (2 ^ n)).2) n nb from hM)
    refine wp_go (f' := (29, [.ref 28, .int (nI 1), .int (nI 1), .int ((seekN (goodN n nb 1) (weightN n wt) true (2 ^ n)).1), .int (nI (2 ^ n)), d5], [.ref 28, .int (nI (2 ^ n))], MW A B (upF F 8 (seekN (goodN n nb 1) (weightN n wt) true (2 ^ n)).2) sw, 0, 0)) 2 rfl ?_
    refine wp_call rfl rfl rfl (ev_up (ev_all hM) (by decide)) ?_
    refine wp_eq (f' := (32, [.ref 28, .int (nI 1), .int (nI 1), .int ((seekN (goodN n nb 1) (weightN n wt) true (2 ^ n)).1), .int (nI (2 ^ n)), d5], [.int (nI (2 ^ n - 1)), .int (nI (2 ^ n))], MW A B (upF F 8 (seekN (goodN n nb 1) (weightN n wt) true (2 ^ n)).2) sw, 0, 0)) rfl ?_
    refine wp_go (f' := ((if (nI (2 ^ n - 1)) < (nI (2 ^ n)) then 95 else 35), [.ref 28, .int (nI 1), .int (nI 1), .int ((seekN (goodN n nb 1) (weightN n wt) true (2 ^ n)).1), .int (nI (2 ^ n)), d5], [], MW A B (upF F 8 (seekN (goodN n nb 1) (weightN n wt) true (2 ^ n)).2) sw, 0, 0)) 1 rfl ?_
    refine wp_ite (fun _ => ?_) (fun h9 => absurd (nI_lt (by omega) (by omega)) h9)
    refine wp_go (f' := (96, [.ref 28, .int (nI 1), .int (nI 1), .int ((seekN (goodN n nb 1) (weightN n wt) true (2 ^ n)).1), .int (nI (2 ^ n)), d5], [.int ((seekN (goodN n nb 1) (weightN n wt) true (2 ^ n)).1)], MW A B (upF F 8 (seekN (goodN n nb 1) (weightN n wt) true (2 ^ n)).2) sw, 0, 0)) 1 rfl ?_
    exact wp_iret rfl
theorem ev_best1 (hM : MI A F n nb) {wt : Nat → Nat} (hw : MWt A wt) : mv_Ev xs Ls 5 131 [.ref 28, .int (nI 1)] (MW A B F sw) (some (.int ((seekN (goodN n nb 1) (weightN n wt) true (2 ^ n)).1)), MW A B (upF F 8 (seekN (goodN n nb 1) (weightN n wt) true (2 ^ n)).2) sw, 0, 0) := by
  refine ev_of_wp rfl rfl rfl ?_
  refine wp_go (f' := (3, [.ref 28, .int (nI 1)], [.int (nI 4), .int (nI 0), .int (nI 1)], MW A B F sw, 0, 0)) 3 rfl ?_
  refine wp_call rfl rfl rfl (ev_up (ev_isIn (nI 1) (nI 0) (nI 4) _) (by decide)) ?_
  refine wp_eq (f' := (6, [.ref 28, .int (nI 1)], [.int (bI (decide ((nI 0) ≤ (nI 1)) && decide ((nI 1) ≤ (nI 4))))], MW A B F sw, 0, 0)) rfl ?_
  refine wp_go (f' := ((if (bI (decide ((nI 0) ≤ (nI 1)) && decide ((nI 1) ≤ (nI 4)))) = 0 then 17 else 9), [.ref 28, .int (nI 1)], [], MW A B F sw, 0, 0)) 1 rfl ?_
  refine wp_ite (fun h9 => absurd h9 (by decide : ¬ bI (decide ((nI 0) ≤ (nI 1)) && decide ((nI 1) ≤ (nI 4))) = 0)) (fun _ => ?_)
  refine wp_go (f' := (11, [.ref 28, .int (nI 1)], [.int (nI 1), .ref 28], MW A B F sw, 0, 0)) 2 rfl ?_
  refine wp_call rfl rfl rfl (ev_up (ev_seek1 hM hw) (by decide)) ?_
  refine wp_eq (f' := (14, [.ref 28, .int (nI 1)], [.int ((seekN (goodN n nb 1) (weightN n wt) true (2 ^ n)).1)], MW A B (upF F 8 (seekN (goodN n nb 1) (weightN n wt) true (2 ^ n)).2) sw, 0, 0)) rfl ?_
  refine wp_go (f' := (19, [.ref 28, .int (nI 1)], [.int ((seekN (goodN n nb 1) (weightN n wt) true (2 ^ n)).1)], MW A B (upF F 8 (seekN (goodN n nb 1) (weightN n wt) true (2 ^ n)).2) sw, 0, 0)) 1 rfl ?_
  exact wp_iret rfl
theorem ev_which1 (hM : MI A F n nb) {wt : Nat → Nat} (hw : MWt A wt) : mv_Ev xs Ls 5 136 [.ref 28, .int (nI 1)] (MW A B F sw) (some (.int ((seekN (goodN n nb 1) (weightN n wt) true (2 ^ n)).2)), MW A B (upF F 8 (seekN (goodN n nb 1) (weightN n wt) true (2 ^ n)).2) sw, 0, 0) := by
  refine ev_of_wp rfl rfl rfl ?_
  refine wp_go (f' := (3, [.ref 28, .int (nI 1)], [.int (nI 4), .int (nI 0), .int (nI 1)], MW A B F sw, 0, 0)) 3 rfl ?_
  refine wp_call rfl rfl rfl (ev_up (ev_isIn (nI 1) (nI 0) (nI 4) _) (by decide)) ?_
  refine wp_eq (f' := (6, [.ref 28, .int (nI 1)], [.int (bI (decide ((nI 0) ≤ (nI 1)) && decide ((nI 1) ≤ (nI 4))))], MW A B F sw, 0, 0)) rfl ?_
  refine wp_go (f' := ((if ¬ (bI (decide ((nI 0) ≤ (nI 1)) && decide ((nI 1) ≤ (nI 4)))) = 0 then 12 else 9), [.ref 28, .int (nI 1)], [], MW A B F sw, 0, 0)) 1 rfl ?_
  refine wp_ite (fun _ => ?_) (fun h9 => absurd (by decide : ¬ bI (decide ((nI 0) ≤ (nI 1)) && decide ((nI 1) ≤ (nI 4))) = 0) h9)
  refine wp_go (f' := (14, [.ref 28, .int (nI 1)], [.int (nI 1), .ref 28], MW A B F sw, 0, 0)) 2 rfl ?_
  refine wp_call rfl rfl rfl (ev_up (ev_seek1 hM hw) (by decide)) ?_
  refine wp_eq (f' := (17, [.ref 28, .int (nI 1)], [.int ((seekN (goodN n nb 1) (weightN n wt) true (2 ^ n)).1)], MW A B (upF F 8 (seekN (goodN n nb 1) (weightN n wt) true (2 ^ n)).2) sw, 0, 0)) rfl ?_
  refine wp_go (f' := (22, [.ref 28, .int (nI 1)], [.int ((seekN (goodN n nb 1) (weightN n wt) true (2 ^ n)).2)], MW A B (upF F 8 (seekN (goodN n nb 1) (weightN n wt) true (2 ^ n)).2) sw, 0, 0)) 3 rfl ?_
  exact wp_iret rfl
theorem ev_seek2 (hM : MI A F n nb) {wt : Nat → Nat} (hw : MWt A wt) : mv_Ev xs Ls 4 132 [.ref 28, .int (nI 2)] (MW A B F sw) (some (.int ((seekN (goodN n nb 2) (weightN n wt) true (2 ^ n)).1)), MW A B (upF F 8 (seekN (goodN n nb 2) (weightN n wt) true (2 ^ n)).2) sw, 0, 0) := by
  refine ev_of_wp rfl rfl rfl ?_
  have hn := hM.1
  have hp := pow10 hn
  have hp1 : 1 ≤ 2 ^ n := Nat.one_le_two_pow
  have hal := all_lt hn
  refine wp_go (f' := ((if (nI 2) = (nI 1) then 10 else 5), [.ref 28, .int (nI 2), .retAddr 0, .retAddr 0, .retAddr 0, .retAddr 0], [], MW A B F sw, 0, 0)) 3 rfl ?_
  refine wp_ite (fun h9 => absurd h9 (by decide : ¬ nI 2 = nI 1)) (fun _ => ?_)
  refine wp_go (f' := ((if ¬ (nI 2) = (nI 2) then 14 else 10), [.ref 28, .int (nI 2), .retAddr 0, .retAddr 0, .retAddr 0, .retAddr 0], [], MW A B F sw, 0, 0)) 3 rfl ?_
  refine wp_ite (fun h9 => absurd h9 (by decide : ¬ ¬ nI 2 = nI 2)) (fun _ => ?_)
  refine wp_go (f' := (26, [.ref 28, .int (nI 2), .int (nI 1), .int (-1), .int (nI 0), .retAddr 0], [], MW A B (upF F 8 (-1)) sw, 0, 0)) 10 rfl ?_
  refine for_ind (P := fun (k : Nat) (q : Int32 × Int32) => ∀ (d5 : Value), mv_Wp xs Ls 3 6 false (some .int) mv_c132 (26, [.ref 28, .int (nI 2), .int (nI 1), .int q.1, .int (nI k), d5], [], MW A B (upF F 8 q.2) sw, 0, 0) (some (.int ((seekN (goodN n nb 2) (weightN n wt) true (2 ^ n)).1)), MW A B (upF F 8 (seekN (goodN n nb 2) (weightN n wt) true (2 ^ n)).2) sw, 0, 0)) (f := fun k q => if goodN n nb 2 k = true ∧ (q.2 = -1 ∨ (if true = true then nI (weightN n wt k) < q.1 else q.1 < nI (weightN n wt k))) then (nI (weightN n wt k), nI k) else q) (n := (2 ^ n)) ?_ (2 ^ n) ((-1 : Int32), (-1 : Int32)) (Nat.le_refl _) ?_  (.retAddr 0)
  · intro k q hk ih  d5
    have hM := (show MI A (upF F 8 q.2) n nb from hM)
    refine wp_go (f' := (29, [.ref 28, .int (nI 2), .int (nI 1), .int q.1, .int (nI k), d5], [.ref 28, .int (nI k)], MW A B (upF F 8 q.2) sw, 0, 0)) 2 rfl ?_
    refine wp_call rfl rfl rfl (ev_up (ev_all hM) (by decide)) ?_
    refine wp_eq (f' := (32, [.ref 28, .int (nI 2), .int (nI 1), .int q.1, .int (nI k), d5], [.int (nI (2 ^ n - 1)), .int (nI k)], MW A B (upF F 8 q.2) sw, 0, 0)) rfl ?_
    refine wp_go (f' := ((if (nI (2 ^ n - 1)) < (nI k) then 95 else 35), [.ref 28, .int (nI 2), .int (nI 1), .int q.1, .int (nI k), d5], [], MW A B (upF F 8 q.2) sw, 0, 0)) 1 rfl ?_
    refine wp_ite (fun h9 => absurd h9 (nI_nlt (by omega) (by omega))) (fun _ => ?_)
    refine wp_go (f' := (39, [.ref 28, .int (nI 2), .int (nI 1), .int q.1, .int (nI k), d5], [.int (nI k), .int (nI 2), .ref 28], MW A B (upF F 8 q.2) sw, 0, 0)) 3 rfl ?_
    refine wp_call rfl rfl rfl (ev_up (ev_isGood2 hM (s := k) (by omega)) (by decide)) ?_
    refine wp_eq (f' := (42, [.ref 28, .int (nI 2), .int (nI 1), .int q.1, .int (nI k), d5], [.int (bI (goodN n nb 2 k))], MW A B (upF F 8 q.2) sw, 0, 0)) rfl ?_
    refine wp_go (f' := ((if (bI (goodN n nb 2 k)) = 0 then 89 else 45), [.ref 28, .int (nI 2), .int (nI 1), .int q.1, .int (nI k), d5], [], MW A B (upF F 8 q.2) sw, 0, 0)) 1 rfl ?_
    refine wp_ite (fun h1 => ?_) (fun h1 => ?_)
    · have h1 := bI_0.mp h1
      refine wp_go (f' := (92, [.ref 28, .int (nI 2), .int (nI 1), .int q.1, .int ((nI k) + 1), d5], [], MW A B (upF F 8 q.2) sw, 0, 0)) 1 rfl ?_
      rw [nI_1]
      refine wp_go (f' := (26, [.ref 28, .int (nI 2), .int (nI 1), .int q.1, .int (nI (k + 1)), d5], [], MW A B (upF F 8 q.2) sw, 0, 0)) 1 rfl ?_
      refine wp_eq ?_ (ih d5)
      simp [h1]
    · have h1 := bI_n0 h1
      refine wp_go (f' := (48, [.ref 28, .int (nI 2), .int (nI 1), .int q.1, .int (nI k), d5], [.int (nI k), .ref 28], MW A B (upF F 8 q.2) sw, 0, 0)) 2 rfl ?_
      refine wp_call rfl rfl rfl (ev_up (ev_weightOf hM (s := k) (by omega) hw) (by decide)) ?_
      refine wp_eq (f' := (51, [.ref 28, .int (nI 2), .int (nI 1), .int q.1, .int (nI k), d5], [.int (nI (weightN n wt k))], MW A B (upF F 8 q.2) sw, 0, 0)) rfl ?_
      refine wp_go (f' := ((if q.2 = (-1) then 80 else 61), [.ref 28, .int (nI 2), .int (nI 1), .int q.1, .int (nI k), .int (nI (weightN n wt k))], [], MW A B (upF F 8 q.2) sw, 0, 0)) 5 rfl ?_
      refine wp_ite (fun h2 => ?_) (fun h2 => ?_)
      · skip
        refine wp_go (f' := (92, [.ref 28, .int (nI 2), .int (nI 1), .int (nI (weightN n wt k)), .int ((nI k) + 1), .int (nI (weightN n wt k))], [], MW A B (upF F 8 (nI k)) sw, 0, 0)) 6 rfl ?_
        rw [nI_1]
        refine wp_go (f' := (26, [.ref 28, .int (nI 2), .int (nI 1), .int (nI (weightN n wt k)), .int (nI (k + 1)), .int (nI (weightN n wt k))], [], MW A B (upF F 8 (nI k)) sw, 0, 0)) 1 rfl ?_
        refine wp_eq ?_ (ih (.int (nI (weightN n wt k))))
        simp [h1, h2]
      · skip
        refine wp_go (f' := ((if (nI 1) = 0 then 74 else 65), [.ref 28, .int (nI 2), .int (nI 1), .int q.1, .int (nI k), .int (nI (weightN n wt k))], [], MW A B (upF F 8 q.2) sw, 0, 0)) 2 rfl ?_
        refine wp_ite (fun h9 => absurd h9 (by decide : ¬ nI 1 = 0)) (fun _ => ?_)
        refine wp_go (f' := ((if q.1 ≤ (nI (weightN n wt k)) then 89 else 71), [.ref 28, .int (nI 2), .int (nI 1), .int q.1, .int (nI k), .int (nI (weightN n wt k))], [], MW A B (upF F 8 q.2) sw, 0, 0)) 3 rfl ?_
        refine wp_ite (fun h3 => ?_) (fun h3 => ?_)
        · skip
          refine wp_go (f' := (92, [.ref 28, .int (nI 2), .int (nI 1), .int q.1, .int ((nI k) + 1), .int (nI (weightN n wt k))], [], MW A B (upF F 8 q.2) sw, 0, 0)) 1 rfl ?_
          rw [nI_1]
          refine wp_go (f' := (26, [.ref 28, .int (nI 2), .int (nI 1), .int q.1, .int (nI (k + 1)), .int (nI (weightN n wt k))], [], MW A B (upF F 8 q.2) sw, 0, 0)) 1 rfl ?_
          refine wp_eq ?_ (ih (.int (nI (weightN n wt k))))
          simp [h1, h2, Int32.not_lt.mpr h3]
        · skip
          refine wp_go (f' := (92, [.ref 28, .int (nI 2), .int (nI 1), .int (nI (weightN n wt k)), .int ((nI k) + 1), .int (nI (weightN n wt k))], [], MW A B (upF F 8 (nI k)) sw, 0, 0)) 7 rfl ?_
          rw [nI_1]
          refine wp_go (f' := (26, [.ref 28, .int (nI 2), .int (nI 1), .int (nI (weightN n wt k)), .int (nI (k + 1)), .int (nI (weightN n wt k))], [], MW A B (upF F 8 (nI k)) sw, 0, 0)) 1 rfl ?_
          refine wp_eq ?_ (ih (.int (nI (weightN n wt k))))
          simp [h1, h2, Int32.not_le.mp h3]
  · intro  d5
    have hM := (show MI A (upF F 8 (seekN (goodN n nb 2) (weightN n wt) true (2 ^ n)).2) n nb from hM)
    refine wp_go (f' := (29, [.ref 28, .int (nI 2), .int (nI 1), .int ((seekN (goodN n nb 2) (weightN n wt) true (2 ^ n)).1), .int (nI (2 ^ n)), d5], [.ref 28, .int (nI (2 ^ n))], MW A B (upF F 8 (seekN (goodN n nb 2) (weightN n wt) true (2 ^ n)).2) sw, 0, 0)) 2 rfl ?_
    refine wp_call rfl rfl rfl (ev_up (ev_all hM) (by decide)) ?_
    refine wp_eq (f' := (32, [.ref 28, .int (nI 2), .int (nI 1), .int ((seekN (goodN n nb 2) (weightN n wt) true (2 ^ n)).1), .int (nI (2 ^ n)), d5], [.int (nI (2 ^ n - 1)), .int (nI (2 ^ n))], MW A B (upF F 8 (seekN (goodN n nb 2) (weightN n wt) true (2 ^ n)).2) sw, 0, 0)) rfl ?_
    refine wp_go (f' := ((if (nI (2 ^ n - 1)) < (nI (2 ^ n)) then 95 else 35), [.ref 28, .int (nI 2), .int (nI 1), .int ((seekN (goodN n nb 2) (weightN n wt) true (2 ^ n)).1), .int (nI (2 ^ n)), d5], [], MW A B (upF F 8 (seekN (goodN n nb 2) (weightN n wt) true (2 ^ n)).2) sw, 0, 0)) 1 rfl ?_
    refine wp_ite (fun _ => ?_) (fun h9 => absurd (nI_lt (by omega) (by omega)) h9)
    refine wp_go (f' := (96, [.ref 28, .int (nI 2), .int (nI 1), .int ((seekN (goodN n nb 2) (weightN n wt) true (2 ^ n)).1), .int (nI (2 ^ n)), d5], [.int ((seekN (goodN n nb 2) (weightN n wt) true (2 ^ n)).1)], MW A B (upF F 8 (seekN (goodN n nb 2) (weightN n wt) true (2 ^ n)).2) sw, 0, 0)) 1 rfl ?_
    exact wp_iret rfl
theorem ev_best2 (hM : MI A F n nb) {wt : Nat → Nat} (hw : MWt A wt) : mv_Ev xs Ls 5 131 [.ref 28, .int (nI 2)] (MW A B F sw) (some (.int ((seekN (goodN n nb 2) (weightN n wt) true (2 ^ n)).1)), MW A B (upF F 8 (seekN (goodN n nb 2) (weightN n wt) true (2 ^ n)).2) sw, 0, 0) := by
  refine ev_of_wp rfl rfl rfl ?_
  refine wp_go (f' := (3, [.ref 28, .int (nI 2)], [.int (nI 4), .int (nI 0), .int (nI 2)], MW A B F sw, 0, 0)) 3 rfl ?_
  refine wp_call rfl rfl rfl (ev_up (ev_isIn (nI 2) (nI 0) (nI 4) _) (by decide)) ?_
  refine wp_eq (f' := (6, [.ref 28, .int (nI 2)], [.int (bI (decide ((nI 0) ≤ (nI 2)) && decide ((nI 2) ≤ (nI 4))))], MW A B F sw, 0, 0)) rfl ?_
  refine wp_go (f' := ((if (bI (decide ((nI 0) ≤ (nI 2)) && decide ((nI 2) ≤ (nI 4)))) = 0 then 17 else 9), [.ref 28, .int (nI 2)], [], MW A B F sw, 0, 0)) 1 rfl ?_
  refine wp_ite (fun h9 => absurd h9 (by decide : ¬ bI (decide ((nI 0) ≤ (nI 2)) && decide ((nI 2) ≤ (nI 4))) = 0)) (fun _ => ?_)
  refine wp_go (f' := (11, [.ref 28, .int (nI 2)], [.int (nI 2), .ref 28], MW A B F sw, 0, 0)) 2 rfl ?_
  refine wp_call rfl rfl rfl (ev_up (ev_seek2 hM hw) (by decide)) ?_
  refine wp_eq (f' := (14, [.ref 28, .int (nI 2)], [.int ((seekN (goodN n nb 2) (weightN n wt) true (2 ^ n)).1)], MW A B (upF F 8 (seekN (goodN n nb 2) (weightN n wt) true (2 ^ n)).2) sw, 0, 0)) rfl ?_
  refine wp_go (f' := (19, [.ref 28, .int (nI 2)], [.int ((seekN (goodN n nb 2) (weightN n wt) true (2 ^ n)).1)], MW A B (upF F 8 (seekN (goodN n nb 2) (weightN n wt) true (2 ^ n)).2) sw, 0, 0)) 1 rfl ?_
  exact wp_iret rfl
theorem ev_which2 (hM : MI A F n nb) {wt : Nat → Nat} (hw : MWt A wt) : mv_Ev xs Ls 5 136 [.ref 28, .int (nI 2)] (MW A B F sw) (some (.int ((seekN (goodN n nb 2) (weightN n wt) true (2 ^ n)).2)), MW A B (upF F 8 (seekN (goodN n nb 2) (weightN n wt) true (2 ^ n)).2) sw, 0, 0) := by
  refine ev_of_wp rfl rfl rfl ?_
  refine wp_go (f' := (3, [.ref 28, .int (nI 2)], [.int (nI 4), .int (nI 0), .int (nI 2)], MW A B F sw, 0, 0)) 3 rfl ?_
  refine wp_call rfl rfl rfl (ev_up (ev_isIn (nI 2) (nI 0) (nI 4) _) (by decide)) ?_
  refine wp_eq (f' := (6, [.ref 28, .int (nI 2)], [.int (bI (decide ((nI 0) ≤ (nI 2)) && decide ((nI 2) ≤ (nI 4))))], MW A B F sw, 0, 0)) rfl ?_
  refine wp_go (f' := ((if ¬ (bI (decide ((nI 0) ≤ (nI 2)) && decide ((nI 2) ≤ (nI 4)))) = 0 then 12 else 9), [.ref 28, .int (nI 2)], [], MW A B F sw, 0, 0)) 1 rfl ?_
  refine wp_ite (fun _ => ?_) (fun h9 => absurd (by decide : ¬ bI (decide ((nI 0) ≤ (nI 2)) && decide ((nI 2) ≤ (nI 4))) = 0) h9)
  refine wp_go (f' := (14, [.ref 28, .int (nI 2)], [.int (nI 2), .ref 28], MW A B F sw, 0, 0)) 2 rfl ?_
  refine wp_call rfl rfl rfl (ev_up (ev_seek2 hM hw) (by decide)) ?_
  refine wp_eq (f' := (17, [.ref 28, .int (nI 2)], [.int ((seekN (goodN n nb 2) (weightN n wt) true (2 ^ n)).1)], MW A B (upF F 8 (seekN (goodN n nb 2) (weightN n wt) true (2 ^ n)).2) sw, 0, 0)) rfl ?_
  refine wp_go (f' := (22, [.ref 28, .int (nI 2)], [.int ((seekN (goodN n nb 2) (weightN n wt) true (2 ^ n)).2)], MW A B (upF F 8 (seekN (goodN n nb 2) (weightN n wt) true (2 ^ n)).2) sw, 0, 0)) 3 rfl ?_
  exact wp_iret rfl
theorem ev_seek3 (hM : MI A F n nb) {wt : Nat → Nat} (hw : MWt A wt) : mv_Ev xs Ls 4 132 [.ref 28, .int (nI 3)] (MW A B F sw) (some (.int ((seekN (goodN n nb 3) (weightN n wt) false (2 ^ n)).1)), MW A B (upF F 8 (seekN (goodN n nb 3) (weightN n wt) false (2 ^ n)).2) sw, 0, 0) := by
  refine ev_of_wp rfl rfl rfl ?_
  have hn := hM.1
  have hp := pow10 hn
  have hp1 : 1 ≤ 2 ^ n := Nat.one_le_two_pow
  have hal := all_lt hn
  refine wp_go (f' := ((if (nI 3) = (nI 1) then 10 else 5), [.ref 28, .int (nI 3), .retAddr 0, .retAddr 0, .retAddr 0, .retAddr 0], [], MW A B F sw, 0, 0)) 3 rfl ?_
  refine wp_ite (fun h9 => absurd h9 (by decide : ¬ nI 3 = nI 1)) (fun _ => ?_)
  refine wp_go (f' := ((if ¬ (nI 3) = (nI 2) then 14 else 10), [.ref 28, .int (nI 3), .retAddr 0, .retAddr 0, .retAddr 0, .retAddr 0], [], MW A B F sw, 0, 0)) 3 rfl ?_
  refine wp_ite (fun _ => ?_) (fun h9 => absurd (by decide : ¬ nI 3 = nI 2) h9)
  refine wp_go (f' := (26, [.ref 28, .int (nI 3), .int (nI 0), .int (-1), .int (nI 0), .retAddr 0], [], MW A B (upF F 8 (-1)) sw, 0, 0)) 9 rfl ?_
  refine for_ind (P := fun (k : Nat) (q : Int32 × Int32) => ∀ (d5 : Value), mv_Wp xs Ls 3 6 false (some .int) mv_c132 (26, [.ref 28, .int (nI 3), .int (nI 0), .int q.1, .int (nI k), d5], [], MW A B (upF F 8 q.2) sw, 0, 0) (some (.int ((seekN (goodN n nb 3) (weightN n wt) false (2 ^ n)).1)), MW A B (upF F 8 (seekN (goodN n nb 3) (weightN n wt) false (2 ^ n)).2) sw, 0, 0)) (f := fun k q => if goodN n nb 3 k = true ∧ (q.2 = -1 ∨ (if false = true then nI (weightN n wt k) < q.1 else q.1 < nI (weightN n wt k))) then (nI (weightN n wt k), nI k) else q) (n := (2 ^ n)) ?_ (2 ^ n) ((-1 : Int32), (-1 : Int32)) (Nat.le_refl _) ?_  (.retAddr 0)
  · intro k q hk ih  d5
    have hM := (show MI A (upF F 8 q.2) n nb from hM)
    refine wp_go (f' := (29, [.ref 28, .int (nI 3), .int (nI 0), .int q.1, .int (nI k), d5], [.ref 28, .int (nI k)], MW A B (upF F 8 q.2) sw, 0, 0)) 2 rfl ?_
    refine wp_call rfl rfl rfl (ev_up (ev_all hM) (by decide)) ?_
    refine wp_eq (f' := (32, [.ref 28, .int (nI 3), .int (nI 0), .int q.1, .int (nI k), d5], [.int (nI (2 ^ n - 1)), .int (nI k)], MW A B (upF F 8 q.2) sw, 0, 0)) rfl ?_
    refine wp_go (f' := ((if (nI (2 ^ n - 1)) < (nI k) then 95 else 35), [.ref 28, .int (nI 3), .int (nI 0), .int q.1, .int (nI k), d5], [], MW A B (upF F 8 q.2) sw, 0, 0)) 1 rfl ?_
    refine wp_ite (fun h9 => absurd h9 (nI_nlt (by omega) (by omega))) (fun _ => ?_)
    refine wp_go (f' := (39, [.ref 28, .int (nI 3), .int (nI 0), .int q.1, .int (nI k), d5], [.int (nI k), .int (nI 3), .ref 28], MW A B (upF F 8 q.2) sw, 0, 0)) 3 rfl ?_
    refine wp_call rfl rfl rfl (ev_up (ev_isGood3 hM (s := k) (by omega)) (by decide)) ?_
    refine wp_eq (f' := (42, [.ref 28, .int (nI 3), .int (nI 0), .int q.1, .int (nI k), d5], [.int (bI (goodN n nb 3 k))], MW A B (upF F 8 q.2) sw, 0, 0)) rfl ?_
    refine wp_go (f' := ((if (bI (goodN n nb 3 k)) = 0 then 89 else 45), [.ref 28, .int (nI 3), .int (nI 0), .int q.1, .int (nI k), d5], [], MW A B (upF F 8 q.2) sw, 0, 0)) 1 rfl ?_
    refine wp_ite (fun h1 => ?_) (fun h1 => ?_)
    · have h1 := bI_0.mp h1
      refine wp_go (f' := (92, [.ref 28, .int (nI 3), .int (nI 0), .int q.1, .int ((nI k) + 1), d5], [], MW A B (upF F 8 q.2) sw, 0, 0)) 1 rfl ?_
      rw [nI_1]
      refine wp_go (f' := (26, [.ref 28, .int (nI 3), .int (nI 0), .int q.1, .int (nI (k + 1)), d5], [], MW A B (upF F 8 q.2) sw, 0, 0)) 1 rfl ?_
      refine wp_eq ?_ (ih d5)
      simp [h1]
    · have h1 := bI_n0 h1
      refine wp_go (f' := (48, [.ref 28, .int (nI 3), .int (nI 0), .int q.1, .int (nI k), d5], [.int (nI k), .ref 28], MW A B (upF F 8 q.2) sw, 0, 0)) 2 rfl ?_
      refine wp_call rfl rfl rfl (ev_up (ev_weightOf hM (s := k) (by omega) hw) (by decide)) ?_
      refine wp_eq (f' := (51, [.ref 28, .int (nI 3), .int (nI 0), .int q.1, .int (nI k), d5], [.int (nI (weightN n wt k))], MW A B (upF F 8 q.2) sw, 0, 0)) rfl ?_
      refine wp_go (f' := ((if q.2 = (-1) then 80 else 61), [.ref 28, .int (nI 3), .int (nI 0), .int q.1, .int (nI k), .int (nI (weightN n wt k))], [], MW A B (upF F 8 q.2) sw, 0, 0)) 5 rfl ?_
      refine wp_ite (fun h2 => ?_) (fun h2 => ?_)
      · skip
        refine wp_go (f' := (92, [.ref 28, .int (nI 3), .int (nI 0), .int (nI (weightN n wt k)), .int ((nI k) + 1), .int (nI (weightN n wt k))], [], MW A B (upF F 8 (nI k)) sw, 0, 0)) 6 rfl ?_
        rw [nI_1]
        refine wp_go (f' := (26, [.ref 28, .int (nI 3), .int (nI 0), .int (nI (weightN n wt k)), .int (nI (k + 1)), .int (nI (weightN n wt k))], [], MW A B (upF F 8 (nI k)) sw, 0, 0)) 1 rfl ?_
        refine wp_eq ?_ (ih (.int (nI (weightN n wt k))))
        simp [h1, h2]
      · skip
        refine wp_go (f' := ((if (nI 0) = 0 then 74 else 65), [.ref 28, .int (nI 3), .int (nI 0), .int q.1, .int (nI k), .int (nI (weightN n wt k))], [], MW A B (upF F 8 q.2) sw, 0, 0)) 2 rfl ?_
        refine wp_ite (fun _ => ?_) (fun h9 => absurd (rfl : nI 0 = 0) h9)
        refine wp_go (f' := ((if (nI (weightN n wt k)) ≤ q.1 then 89 else 80), [.ref 28, .int (nI 3), .int (nI 0), .int q.1, .int (nI k), .int (nI (weightN n wt k))], [], MW A B (upF F 8 q.2) sw, 0, 0)) 3 rfl ?_
        refine wp_ite (fun h3 => ?_) (fun h3 => ?_)
        · skip
          refine wp_go (f' := (92, [.ref 28, .int (nI 3), .int (nI 0), .int q.1, .int ((nI k) + 1), .int (nI (weightN n wt k))], [], MW A B (upF F 8 q.2) sw, 0, 0)) 1 rfl ?_
          rw [nI_1]
          refine wp_go (f' := (26, [.ref 28, .int (nI 3), .int (nI 0), .int q.1, .int (nI (k + 1)), .int (nI (weightN n wt k))], [], MW A B (upF F 8 q.2) sw, 0, 0)) 1 rfl ?_
          refine wp_eq ?_ (ih (.int (nI (weightN n wt k))))
          simp [h1, h2, Int32.not_lt.mpr h3]
        · skip
          refine wp_go (f' := (92, [.ref 28, .int (nI 3), .int (nI 0), .int (nI (weightN n wt k)), .int ((nI k) + 1), .int (nI (weightN n wt k))], [], MW A B (upF F 8 (nI k)) sw, 0, 0)) 6 rfl ?_
          rw [nI_1]
          refine wp_go (f' := (26, [.ref 28, .int (nI 3), .int (nI 0), .int (nI (weightN n wt k)), .int (nI (k + 1)), .int (nI (weightN n wt k))], [], MW A B (upF F 8 (nI k)) sw, 0, 0)) 1 rfl ?_
          refine wp_eq ?_ (ih (.int (nI (weightN n wt k))))
          simp [h1, h2, Int32.not_le.mp h3]
  · intro  d5
    have hM := (show MI A (upF F 8 (seekN (goodN n nb 3) (weightN n wt) false (2 ^ n)).2) n nb from hM)
    refine wp_go (f' := (29, [.ref 28, .int (nI 3), .int (nI 0), .int ((seekN (goodN n nb 3) (weightN n wt) false (2 ^ n)).1), .int (nI (2 ^ n)), d5], [.ref 28, .int (nI (2 ^ n))], MW A B (upF F 8 (seekN (goodN n nb 3) (weightN n wt) false (2 ^ n)).2) sw, 0, 0)) 2 rfl ?_
    refine wp_call rfl rfl rfl (ev_up (ev_all hM) (by decide)) ?_
    refine wp_eq (f' := (32, [.ref 28, .int (nI 3), .int (nI 0), .int ((seekN (goodN n nb 3) (weightN n wt) false (2 ^ n)).1), .int (nI (2 ^ n)), d5], [.int (nI (2 ^ n - 1)), .int (nI (2 ^ n))], MW A B (upF F 8 (seekN (goodN n nb 3) (weightN n wt) false (2 ^ n)).2) sw, 0, 0)) rfl ?_
    refine wp_go (f' := ((if (nI (2 ^ n - 1)) < (nI (2 ^ n)) then 95 else 35), [.ref 28, .int (nI 3), .int (nI 0), .int ((seekN (goodN n nb 3) (weightN n wt) false (2 ^ n)).1), .int (nI (2 ^ n)), d5], [], MW A B (upF F 8 (seekN (goodN n nb 3) (weightN n wt) false (2 ^ n)).2) sw, 0, 0)) 1 rfl ?_
    refine wp_ite (fun _ => ?_) (fun h9 => absurd (nI_lt (by omega) (by omega)) h9)
    refine wp_go (f' := (96, [.ref 28, .int (nI 3), .int (nI 0), .int ((seekN (goodN n nb 3) (weightN n wt) false (2 ^ n)).1), .int (nI (2 ^ n)), d5], [.int ((seekN (goodN n nb 3) (weightN n wt) false (2 ^ n)).1)], MW A B (upF F 8 (seekN (goodN n nb 3) (weightN n wt) false (2 ^ n)).2) sw, 0, 0)) 1 rfl ?_
    exact wp_iret rfl
theorem ev_best3 (hM : MI A F n nb) {wt : Nat → Nat} (hw : MWt A wt) : mv_Ev xs Ls 5 131 [.ref 28, .int (nI 3)] (MW A B F sw) (some (.int ((seekN (goodN n nb 3) (weightN n wt) false (2 ^ n)).1)), MW A B (upF F 8 (seekN (goodN n nb 3) (weightN n wt) false (2 ^ n)).2) sw, 0, 0) := by
  refine ev_of_wp rfl rfl rfl ?_
  refine wp_go (f' := (3, [.ref 28, .int (nI 3)], [.int (nI 4), .int (nI 0), .int (nI 3)], MW A B F sw, 0, 0)) 3 rfl ?_
  refine wp_call rfl rfl rfl (ev_up (ev_isIn (nI 3) (nI 0) (nI 4) _) (by decide)) ?_
  refine wp_eq (f' := (6, [.ref 28, .int (nI 3)], [.int (bI (decide ((nI 0) ≤ (nI 3)) && decide ((nI 3) ≤ (nI 4))))], MW A B F sw, 0, 0)) rfl ?_
  refine wp_go (f' := ((if (bI (decide ((nI 0) ≤ (nI 3)) && decide ((nI 3) ≤ (nI 4)))) = 0 then 17 else 9), [.ref 28, .int (nI 3)], [], MW A B F sw, 0, 0)) 1 rfl ?_
  refine wp_ite (fun h9 => absurd h9 (by decide : ¬ bI (decide ((nI 0) ≤ (nI 3)) && decide ((nI 3) ≤ (nI 4))) = 0)) (fun _ => ?_)
  refine wp_go (f' := (11, [.ref 28, .int (nI 3)], [.int (nI 3), .ref 28], MW A B F sw, 0, 0)) 2 rfl ?_
  refine wp_call rfl rfl rfl (ev_up (ev_seek3 hM hw) (by decide)) ?_
  refine wp_eq (f' := (14, [.ref 28, .int (nI 3)], [.int ((seekN (goodN n nb 3) (weightN n wt) false (2 ^ n)).1)], MW A B (upF F 8 (seekN (goodN n nb 3) (weightN n wt) false (2 ^ n)).2) sw, 0, 0)) rfl ?_
  refine wp_go (f' := (19, [.ref 28, .int (nI 3)], [.int ((seekN (goodN n nb 3) (weightN n wt) false (2 ^ n)).1)], MW A B (upF F 8 (seekN (goodN n nb 3) (weightN n wt) false (2 ^ n)).2) sw, 0, 0)) 1 rfl ?_
  exact wp_iret rfl
theorem ev_which3 (hM : MI A F n nb) {wt : Nat → Nat} (hw : MWt A wt) : mv_Ev xs Ls 5 136 [.ref 28, .int (nI 3)] (MW A B F sw) (some (.int ((seekN (goodN n nb 3) (weightN n wt) false (2 ^ n)).2)), MW A B (upF F 8 (seekN (goodN n nb 3) (weightN n wt) false (2 ^ n)).2) sw, 0, 0) := by
  refine ev_of_wp rfl rfl rfl ?_
  refine wp_go (f' := (3, [.ref 28, .int (nI 3)], [.int (nI 4), .int (nI 0), .int (nI 3)], MW A B F sw, 0, 0)) 3 rfl ?_
  refine wp_call rfl rfl rfl (ev_up (ev_isIn (nI 3) (nI 0) (nI 4) _) (by decide)) ?_
  refine wp_eq (f' := (6, [.ref 28, .int (nI 3)], [.int (bI (decide ((nI 0) ≤ (nI 3)) && decide ((nI 3) ≤ (nI 4))))], MW A B F sw, 0, 0)) rfl ?_
  refine wp_go (f' := ((if ¬ (bI (decide ((nI 0) ≤ (nI 3)) && decide ((nI 3) ≤ (nI 4)))) = 0 then 12 else 9), [.ref 28, .int (nI 3)], [], MW A B F sw, 0, 0)) 1 rfl ?_
  refine wp_ite (fun _ => ?_) (fun h9 => absurd (by decide : ¬ bI (decide ((nI 0) ≤ (nI 3)) && decide ((nI 3) ≤ (nI 4))) = 0) h9)
  refine wp_go (f' := (14, [.ref 28, .int (nI 3)], [.int (nI 3), .ref 28], MW A B F sw, 0, 0)) 2 rfl ?_
  refine wp_call rfl rfl rfl (ev_up (ev_seek3 hM hw) (by decide)) ?_
  refine wp_eq (f' := (17, [.ref 28, .int (nI 3)], [.int ((seekN (goodN n nb 3) (weightN n wt) false (2 ^ n)).1)], MW A B (upF F 8 (seekN (goodN n nb 3) (weightN n wt) false (2 ^ n)).2) sw, 0, 0)) rfl ?_
  refine wp_go (f' := (22, [.ref 28, .int (nI 3)], [.int ((seekN (goodN n nb 3) (weightN n wt) false (2 ^ n)).2)], MW A B (upF F 8 (seekN (goodN n nb 3) (weightN n wt) false (2 ^ n)).2) sw, 0, 0)) 3 rfl ?_
  exact wp_iret rfl
theorem ev_seek4 (hM : MI A F n nb) {wt : Nat → Nat} (hw : MWt A wt) : mv_Ev xs Ls 4 132 [.ref 28, .int (nI 4)] (MW A B F sw) (some (.int ((seekN (goodN n nb 4) (weightN n wt) false (2 ^ n)).1)), MW A B (upF F 8 (seekN (goodN n nb 4) (weightN n wt) false (2 ^ n)).2) sw, 0, 0) := by
  refine ev_of_wp rfl rfl rfl ?_
  have hn := hM.1
  have hp := pow10 hn
  have hp1 : 1 ≤ 2 ^ n := Nat.one_le_two_pow
  have hal := all_lt hn
  refine wp_go (f' := ((if (nI 4) = (nI 1) then 10 else 5), [.ref 28, .int (nI 4), .retAddr 0, .retAddr 0, .retAddr 0, .retAddr 0], [], MW A B F sw, 0, 0)) 3 rfl ?_
  refine wp_ite (fun h9 => absurd h9 (by decide : ¬ nI 4 = nI 1)) (fun _ => ?_)
  refine wp_go (f' := ((if ¬ (nI 4) = (nI 2) then 14 else 10), [.ref 28, .int (nI 4), .retAddr 0, .retAddr 0, .retAddr 0, .retAddr 0], [], MW A B F sw, 0, 0)) 3 rfl ?_
  refine wp_ite (fun _ => ?_) (fun h9 => absurd (by decide : ¬ nI 4 = nI 2) h9)
  refine wp_go (f' := (26, [.ref 28, .int (nI 4), .int (nI 0), .int (-1), .int (nI 0), .retAddr 0], [], MW A B (upF F 8 (-1)) sw, 0, 0)) 9 rfl ?_
  refine for_ind (P := fun (k : Nat) (q : Int32 × Int32) => ∀ (d5 : Value), mv_Wp xs Ls 3 6 false (some .int) mv_c132 (26, [.ref 28, .int (nI 4), .int (nI 0), .int q.1, .int (nI k), d5], [], MW A B (upF F 8 q.2) sw, 0, 0) (some (.int ((seekN (goodN n nb 4) (weightN n wt) false (2 ^ n)).1)), MW A B (upF F 8 (seekN (goodN n nb 4) (weightN n wt) false (2 ^ n)).2) sw, 0, 0)) (f := fun k q => if goodN n nb 4 k = true ∧ (q.2 = -1 ∨ (if false = true then nI (weightN n wt k) < q.1 else q.1 < nI (weightN n wt k))) then (nI (weightN n wt k), nI k) else q) (n := (2 ^ n)) ?_ (2 ^ n) ((-1 : Int32), (-1 : Int32)) (Nat.le_refl _) ?_  (.retAddr 0)
  · intro k q hk ih  d5
    have hM := (show MI A (upF F 8 q.2) n nb from hM)
    refine wp_go (f' := (29, [.ref 28, .int (nI 4), .int (nI 0), .int q.1, .int (nI k), d5], [.ref 28, .int (nI k)], MW A B (upF F 8 q.2) sw, 0, 0)) 2 rfl ?_
    refine wp_call rfl rfl rfl (ev_up (ev_all hM) (by decide)) ?_
    refine wp_eq (f' := (32, [.ref 28, .int (nI 4), .int (nI 0), .int q.1, .int (nI k), d5], [.int (nI (2 ^ n - 1)), .int (nI k)], MW A B (upF F 8 q.2) sw, 0, 0)) rfl ?_
    refine wp_go (f' := ((if (nI (2 ^ n - 1)) < (nI k) then 95 else 35), [.ref 28, .int (nI 4), .int (nI 0), .int q.1, .int (nI k), d5], [], MW A B (upF F 8 q.2) sw, 0, 0)) 1 rfl ?_
    refine wp_ite (fun h9 => absurd h9 (nI_nlt (by omega) (by omega))) (fun _ => ?_)
    refine wp_go (f' := (39, [.ref 28, .int (nI 4), .int (nI 0), .int q.1, .int (nI k), d5], [.int (nI k), .int (nI 4), .ref 28], MW A B (upF F 8 q.2) sw, 0, 0)) 3 rfl ?_
    refine wp_call rfl rfl rfl (ev_up (ev_isGood4 hM (s := k) (by omega)) (by decide)) ?_
    refine wp_eq (f' := (42, [.ref 28, .int (nI 4), .int (nI 0), .int q.1, .int (nI k), d5], [.int (bI (goodN n nb 4 k))], MW A B (upF F 8 q.2) sw, 0, 0)) rfl ?_
    refine wp_go (f' := ((if (bI (goodN n nb 4 k)) = 0 then 89 else 45), [.ref 28, .int (nI 4), .int (nI 0), .int q.1, .int (nI k), d5], [], MW A B (upF F 8 q.2) sw, 0, 0)) 1 rfl ?_
    refine wp_ite (fun h1 => ?_) (fun h1 => ?_)
    · have h1 := bI_0.mp h1
      refine wp_go (f' := (92, [.ref 28, .int (nI 4), .int (nI 0), .int q.1, .int ((nI k) + 1), d5], [], MW A B (upF F 8 q.2) sw, 0, 0)) 1 rfl ?_
      rw [nI_1]
      refine wp_go (f' := (26, [.ref 28, .int (nI 4), .int (nI 0), .int q.1, .int (nI (k + 1)), d5], [], MW A B (upF F 8 q.2) sw, 0, 0)) 1 rfl ?_
      refine wp_eq ?_ (ih d5)
      simp [h1]
    · have h1 := bI_n0 h1
      refine wp_go (f' := (48, [.ref 28, .int (nI 4), .int (nI 0), .int q.1, .int (nI k), d5], [.int (nI k), .ref 28], MW A B (upF F 8 q.2) sw, 0, 0)) 2 rfl ?_
      refine wp_call rfl rfl rfl (ev_up (ev_weightOf hM (s := k) (by omega) hw) (by decide)) ?_
      refine wp_eq (f' := (51, [.ref 28, .int (nI 4), .int (nI 0), .int q.1, .int (nI k), d5], [.int (nI (weightN n wt k))], MW A B (upF F 8 q.2) sw, 0, 0)) rfl ?_
      refine wp_go (f' := ((if q.2 = (-1) then 80 else 61), [.ref 28, .int (nI 4), .int (nI 0), .int q.1, .int (nI k), .int (nI (weightN n wt k))], [], MW A B (upF F 8 q.2) sw, 0, 0)) 5 rfl ?_
      refine wp_ite (fun h2 => ?_) (fun h2 => ?_)
      · skip
        refine wp_go (f' := (92, [.ref 28, .int (nI 4), .int (nI 0), .int (nI (weightN n wt k)), .int ((nI k) + 1), .int (nI (weightN n wt k))], [], MW A B (upF F 8 (nI k)) sw, 0, 0)) 6 rfl ?_
        rw [nI_1]
        refine wp_go (f' := (26, [.ref 28, .int (nI 4), .int (nI 0), .int (nI (weightN n wt k)), .int (nI (k + 1)), .int (nI (weightN n wt k))], [], MW A B (upF F 8 (nI k)) sw, 0, 0)) 1 rfl ?_
        refine wp_eq ?_ (ih (.int (nI (weightN n wt k))))
        simp [h1, h2]
      · skip
        refine wp_go (f' := ((if (nI 0) = 0 then 74 else 65), [.ref 28, .int (nI 4), .int (nI 0), .int q.1, .int (nI k), .int (nI (weightN n wt k))], [], MW A B (upF F 8 q.2) sw, 0, 0)) 2 rfl ?_
        refine wp_ite (fun _ => ?_) (fun h9 => absurd (rfl : nI 0 = 0) h9)
        refine wp_go (f' := ((if (nI (weightN n wt k)) ≤ q.1 then 89 else 80), [.ref 28, .int (nI 4), .int (nI 0), .int q.1, .int (nI k), .int (nI (weightN n wt k))], [], MW A B (upF F 8 q.2) sw, 0, 0)) 3 rfl ?_
        refine wp_ite (fun h3 => ?_) (fun h3 => ?_)
        · skip
          refine wp_go (f' := (92, [.ref 28, .int (nI 4), .int (nI 0), .int q.1, .int ((nI k) + 1), .int (nI (weightN n wt k))], [], MW A B (upF F 8 q.2) sw, 0, 0)) 1 rfl ?_
          rw [nI_1]
          refine wp_go (f' := (26, [.ref 28, .int (nI 4), .int (nI 0), .int q.1, .int (nI (k + 1)), .int (nI (weightN n wt k))], [], MW A B (upF F 8 q.2) sw, 0, 0)) 1 rfl ?_
          refine wp_eq ?_ (ih (.int (nI (weightN n wt k))))
          simp [h1, h2, Int32.not_lt.mpr h3]
        · skip
          refine wp_go (f' := (92, [.ref 28, .int (nI 4), .int (nI 0), .int (nI (weightN n wt k)), .int ((nI k) + 1), .int (nI (weightN n wt k))], [], MW A B (upF F 8 (nI k)) sw, 0, 0)) 6 rfl ?_
          rw [nI_1]
          refine wp_go (f' := (26, [.ref 28, .int (nI 4), .int (nI 0), .int (nI (weightN n wt k)), .int (nI (k + 1)), .int (nI (weightN n wt k))], [], MW A B (upF F 8 (nI k)) sw, 0, 0)) 1 rfl ?_
          refine wp_eq ?_ (ih (.int (nI (weightN n wt k))))
          simp [h1, h2, Int32.not_le.mp h3]
  · intro  d5
    have hM := (show MI A (upF F 8 (seekN (goodN n nb 4) (weightN n wt) false (2 ^ n)).2) n nb from hM)
    refine wp_go (f' := (29, [.ref 28, .int (nI 4), .int (nI 0), .int ((seekN (goodN n nb 4) (weightN n wt) false (2 ^ n)).1), .int (nI (2 ^ n)), d5], [.ref 28, .int (nI (2 ^ n))], MW A B (upF F 8 (seekN (goodN n nb 4) (weightN n wt) false (2 ^ n)).2) sw, 0, 0)) 2 rfl ?_
    refine wp_call rfl rfl rfl (ev_up (ev_all hM) (by decide)) ?_
    refine wp_eq (f' := (32, [.ref 28, .int (nI 4), .int (nI 0), .int ((seekN (goodN n nb 4) (weightN n wt) false (2 ^ n)).1), .int (nI (2 ^ n)), d5], [.int (nI (2 ^ n - 1)), .int (nI (2 ^ n))], MW A B (upF F 8 (seekN (goodN n nb 4) (weightN n wt) false (2 ^ n)).2) sw, 0, 0)) rfl ?_
    refine wp_go (f' := ((if (nI (2 ^ n - 1)) < (nI (2 ^ n)) then 95 else 35), [.ref 28, .int (nI 4), .int (nI 0), .int ((seekN (goodN n nb 4) (weightN n wt) false (2 ^ n)).1), .int (nI (2 ^ n)), d5], [], MW A B (upF F 8 (seekN (goodN n nb 4) (weightN n wt) false (2 ^ n)).2) sw, 0, 0)) 1 rfl ?_
    refine wp_ite (fun _ => ?_) (fun h9 => absurd (nI_lt (by omega) (by omega)) h9)
    refine wp_go (f' := (96, [.ref 28, .int (nI 4), .int (nI 0), .int ((seekN (goodN n nb 4) (weightN n wt) false (2 ^ n)).1), .int (nI (2 ^ n)), d5], [.int ((seekN (goodN n nb 4) (weightN n wt) false (2 ^ n)).1)], MW A B (upF F 8 (seekN (goodN n nb 4) (weightN n wt) false (2 ^ n)).2) sw, 0, 0)) 1 rfl ?_
    exact wp_iret rfl
theorem ev_best4 (hM : MI A F n nb) {wt : Nat → Nat} (hw : MWt A wt) : mv_Ev xs Ls 5 131 [.ref 28, .int (nI 4)] (MW A B F sw) (some (.int ((seekN (goodN n nb 4) (weightN n wt) false (2 ^ n)).1)), MW A B (upF F 8 (seekN (goodN n nb 4) (weightN n wt) false (2 ^ n)).2) sw, 0, 0) := by
  refine ev_of_wp rfl rfl rfl ?_
  refine wp_go (f' := (3, [.ref 28, .int (nI 4)], [.int (nI 4), .int (nI 0), .int (nI 4)], MW A B F sw, 0, 0)) 3 rfl ?_
  refine wp_call rfl rfl rfl (ev_up (ev_isIn (nI 4) (nI 0) (nI 4) _) (by decide)) ?_
  refine wp_eq (f' := (6, [.ref 28, .int (nI 4)], [.int (bI (decide ((nI 0) ≤ (nI 4)) && decide ((nI 4) ≤ (nI 4))))], MW A B F sw, 0, 0)) rfl ?_
  refine wp_go (f' := ((if (bI (decide ((nI 0) ≤ (nI 4)) && decide ((nI 4) ≤ (nI 4)))) = 0 then 17 else 9), [.ref 28, .int (nI 4)], [], MW A B F sw, 0, 0)) 1 rfl ?_
  refine wp_ite (fun h9 => absurd h9 (by decide : ¬ bI (decide ((nI 0) ≤ (nI 4)) && decide ((nI 4) ≤ (nI 4))) = 0)) (fun _ => ?_)
  refine wp_go (f' := (11, [.ref 28, .int (nI 4)], [.int (nI 4), .ref 28], MW A B F sw, 0, 0)) 2 rfl ?_
  refine wp_call rfl rfl rfl (ev_up (ev_seek4 hM hw) (by decide)) ?_
  refine wp_eq (f' := (14, [.ref 28, .int (nI 4)], [.int ((seekN (goodN n nb 4) (weightN n wt) false (2 ^ n)).1)], MW A B (upF F 8 (seekN (goodN n nb 4) (weightN n wt) false (2 ^ n)).2) sw, 0, 0)) rfl ?_
  refine wp_go (f' := (19, [.ref 28, .int (nI 4)], [.int ((seekN (goodN n nb 4) (weightN n wt) false (2 ^ n)).1)], MW A B (upF F 8 (seekN (goodN n nb 4) (weightN n wt) false (2 ^ n)).2) sw, 0, 0)) 1 rfl ?_
  exact wp_iret rfl
theorem ev_which4 (hM : MI A F n nb) {wt : Nat → Nat} (hw : MWt A wt) : mv_Ev xs Ls 5 136 [.ref 28, .int (nI 4)] (MW A B F sw) (some (.int ((seekN (goodN n nb 4) (weightN n wt) false (2 ^ n)).2)), MW A B (upF F 8 (seekN (goodN n nb 4) (weightN n wt) false (2 ^ n)).2) sw, 0, 0) := by
  refine ev_of_wp rfl rfl rfl ?_
  refine wp_go (f' := (3, [.ref 28, .int (nI 4)], [.int (nI 4), .int (nI 0), .int (nI 4)], MW A B F sw, 0, 0)) 3 rfl ?_
  refine wp_call rfl rfl rfl (ev_up (ev_isIn (nI 4) (nI 0) (nI 4) _) (by decide)) ?_
  refine wp_eq (f' := (6, [.ref 28, .int (nI 4)], [.int (bI (decide ((nI 0) ≤ (nI 4)) && decide ((nI 4) ≤ (nI 4))))], MW A B F sw, 0, 0)) rfl ?_
  refine wp_go (f' := ((if ¬ (bI (decide ((nI 0) ≤ (nI 4)) && decide ((nI 4) ≤ (nI 4)))) = 0 then 12 else 9), [.ref 28, .int (nI 4)], [], MW A B F sw, 0, 0)) 1 rfl ?_
  refine wp_ite (fun _ => ?_) (fun h9 => absurd (by decide : ¬ bI (decide ((nI 0) ≤ (nI 4)) && decide ((nI 4) ≤ (nI 4))) = 0) h9)
  refine wp_go (f' := (14, [.ref 28, .int (nI 4)], [.int (nI 4), .ref 28], MW A B F sw, 0, 0)) 2 rfl ?_
  refine wp_call rfl rfl rfl (ev_up (ev_seek4 hM hw) (by decide)) ?_
  refine wp_eq (f' := (17, [.ref 28, .int (nI 4)], [.int ((seekN (goodN n nb 4) (weightN n wt) false (2 ^ n)).1)], MW A B (upF F 8 (seekN (goodN n nb 4) (weightN n wt) false (2 ^ n)).2) sw, 0, 0)) rfl ?_
  refine wp_go (f' := (22, [.ref 28, .int (nI 4)], [.int ((seekN (goodN n nb 4) (weightN n wt) false (2 ^ n)).2)], MW A B (upF F 8 (seekN (goodN n nb 4) (weightN n wt) false (2 ^ n)).2) sw, 0, 0)) 3 rfl ?_
  exact wp_iret rfl
theorem ev_best_f {x : Int32} (hx : outN x 4 = true) : mv_Ev xs Ls 5 131 [.ref 28, .int x] (MW A B F sw) (some (.int (-2)), MW A B F sw, 0, 0) := by
  refine ev_of_wp rfl rfl rfl ?_
  refine wp_go (f' := (3, [.ref 28, .int x], [.int (nI 4), .int (nI 0), .int x], MW A B F sw, 0, 0)) 3 rfl ?_
  refine wp_call rfl rfl rfl (ev_up (ev_isIn x (nI 0) (nI 4) _) (by decide)) ?_
  refine wp_eq (f' := (6, [.ref 28, .int x], [.int (bI (decide ((nI 0) ≤ x) && decide (x ≤ (nI 4))))], MW A B F sw, 0, 0)) rfl ?_
  refine wp_go (f' := ((if (bI (decide ((nI 0) ≤ x) && decide (x ≤ (nI 4)))) = 0 then 17 else 9), [.ref 28, .int x], [], MW A B F sw, 0, 0)) 1 rfl ?_
  refine wp_ite (fun _ => ?_) (fun h9 => absurd (bI_f (by have h8 := hx; unfold outN at h8; rw [Bool.not_eq_true'] at h8; exact h8)) h9)
  refine wp_go (f' := (19, [.ref 28, .int x], [.int (-2)], MW A B F sw, 0, 0)) 1 rfl ?_
  exact wp_iret rfl
theorem ev_which_f {x : Int32} (hx : outN x 4 = true) : mv_Ev xs Ls 5 136 [.ref 28, .int x] (MW A B F sw) (some (.int (-2)), MW A B F sw, 0, 0) := by
  refine ev_of_wp rfl rfl rfl ?_
  refine wp_go (f' := (3, [.ref 28, .int x], [.int (nI 4), .int (nI 0), .int x], MW A B F sw, 0, 0)) 3 rfl ?_
  refine wp_call rfl rfl rfl (ev_up (ev_isIn x (nI 0) (nI 4) _) (by decide)) ?_
  refine wp_eq (f' := (6, [.ref 28, .int x], [.int (bI (decide ((nI 0) ≤ x) && decide (x ≤ (nI 4))))], MW A B F sw, 0, 0)) rfl ?_
  refine wp_go (f' := ((if ¬ (bI (decide ((nI 0) ≤ x) && decide (x ≤ (nI 4)))) = 0 then 12 else 9), [.ref 28, .int x], [], MW A B F sw, 0, 0)) 1 rfl ?_
  refine wp_ite (fun h9 => absurd h9 (fun h8 => h8 (bI_f (by have h8 := hx; unfold outN at h8; rw [Bool.not_eq_true'] at h8; exact h8)))) (fun _ => ?_)
  refine wp_go (f' := (11, [.ref 28, .int x], [.int (-2)], MW A B F sw, 0, 0)) 1 rfl ?_
  exact wp_iret rfl
/-- the fewest edges that join the set t (-1: they don't hang together) -/
def fewN (n : Nat) (nb : Nat → Nat) (t : Nat) : Int32 := forN (fun s (m : Int32) => if (s &&& t = t ∧ wholeN n nb s = true) ∧ (m = -1 ∨ nI (if s = 0 then 0 else pop s - 1) < m) then nI (if s = 0 then 0 else pop s - 1) else m) (2 ^ n) (-1)
theorem few_out {n : Nat} (hn : n ≤ 10) {t : Nat} (ht : t < 2 ^ 31) : nI t &&& (nI (2 ^ n - 1) ^^^ (-1)) = 0 ↔ t < 2 ^ n := by
  rw [bx_not, bx_and]
  have hlt : t &&& ((2 ^ n - 1) ^^^ 4294967295) < 2 ^ 31 := Nat.lt_of_le_of_lt Nat.and_le_left ht
  have e := nI_eq (a := t &&& ((2 ^ n - 1) ^^^ 4294967295)) (b := 0) hlt (by decide)
  constructor
  · intro h
    have h0 := e.mp h
    rcases Nat.lt_or_ge t (2 ^ n) with g | g
    · exact g
    · obtain ⟨i, hi, hb⟩ := Nat.exists_ge_and_testBit_of_ge_two_pow g
      have hi2 : i < 31 := by
        rcases Nat.lt_or_ge i 31 with q | q
        · exact q
        · rw [bt_big ht q] at hb; cases hb
      have : (t &&& ((2 ^ n - 1) ^^^ 4294967295)).testBit i = true := by
        rw [Nat.testBit_and, Nat.testBit_xor, bt_all1, all_bit, hb]
        simp [show ¬ i < n by omega, show i < 32 by omega]
      rw [h0] at this
      simp at this
  · intro h
    refine e.mpr ?_
    apply Nat.eq_of_testBit_eq
    intro i
    rw [Nat.testBit_and, Nat.testBit_xor, bt_all1, all_bit, Nat.zero_testBit]
    by_cases hi : i < n
    · simp [hi, show i < 32 by omega]
    · rw [bt_big h (by omega)]; simp
theorem ev_fewest_f1 (hM : MI A F n nb) {x : Int32} (hx : x < 0) : mv_Ev xs Ls 2 137 [.ref 28, .int x] (MW A B F sw) (some (.int (-2)), MW A B F sw, 0, 0) := by
  refine ev_of_wp rfl rfl rfl ?_
  have hn := hM.1
  refine wp_go (f' := ((if x < 0 then 15 else 4), [.ref 28, .int x, .retAddr 0, .retAddr 0, .retAddr 0], [], MW A B F sw, 0, 0)) 2 rfl ?_
  refine wp_ite (fun _ => ?_) (fun h9 => absurd hx h9)
  refine wp_go (f' := (17, [.ref 28, .int x, .retAddr 0, .retAddr 0, .retAddr 0], [.int (-2)], MW A B F sw, 0, 0)) 1 rfl ?_
  exact wp_iret rfl
theorem ev_fewest_f2 (hM : MI A F n nb) {t : Nat} (ht : t < 2 ^ 31) (h2 : ¬ t < 2 ^ n) : mv_Ev xs Ls 2 137 [.ref 28, .int (nI t)] (MW A B F sw) (some (.int (-2)), MW A B F sw, 0, 0) := by
  refine ev_of_wp rfl rfl rfl ?_
  have hn := hM.1
  have hp := pow10 hn
  have hp1 : 1 ≤ 2 ^ n := Nat.one_le_two_pow
  have hal := all_lt hn
  refine wp_go (f' := ((if (nI t) < 0 then 15 else 4), [.ref 28, .int (nI t), .retAddr 0, .retAddr 0, .retAddr 0], [], MW A B F sw, 0, 0)) 2 rfl ?_
  refine wp_ite (fun h9 => absurd h9 (nI_pos ht)) (fun _ => ?_)
  refine wp_go (f' := (6, [.ref 28, .int (nI t), .retAddr 0, .retAddr 0, .retAddr 0], [.ref 28, .int (nI t)], MW A B F sw, 0, 0)) 2 rfl ?_
  refine wp_call rfl rfl rfl (ev_up (ev_all hM) (by decide)) ?_
  refine wp_eq (f' := (9, [.ref 28, .int (nI t), .retAddr 0, .retAddr 0, .retAddr 0], [.int (nI (2 ^ n - 1)), .int (nI t)], MW A B F sw, 0, 0)) rfl ?_
  refine wp_go (f' := ((if ((nI t) &&& ((nI (2 ^ n - 1)) ^^^ (-1))) = 0 then 18 else 15), [.ref 28, .int (nI t), .retAddr 0, .retAddr 0, .retAddr 0], [], MW A B F sw, 0, 0)) 4 rfl ?_
  refine wp_ite (fun h9 => absurd h9 (fun h8 => h2 ((few_out hn ht).mp h8))) (fun _ => ?_)
  refine wp_go (f' := (17, [.ref 28, .int (nI t), .retAddr 0, .retAddr 0, .retAddr 0], [.int (-2)], MW A B F sw, 0, 0)) 1 rfl ?_
  exact wp_iret rfl
theorem ev_fewest_ok (hM : MI A F n nb) {t : Nat} (ht : t < 2 ^ n) : mv_Ev xs Ls 3 137 [.ref 28, .int (nI t)] (MW A B F sw) (some (.int (fewN n nb t)), MW A B F sw, 0, 0) := by
  refine ev_of_wp rfl rfl rfl ?_
  have hn := hM.1
  have hp := pow10 hn
  have hp1 : 1 ≤ 2 ^ n := Nat.one_le_two_pow
  have hal := all_lt hn
  refine wp_go (f' := ((if (nI t) < 0 then 15 else 4), [.ref 28, .int (nI t), .retAddr 0, .retAddr 0, .retAddr 0], [], MW A B F sw, 0, 0)) 2 rfl ?_
  refine wp_ite (fun h9 => absurd h9 (nI_pos (n := t) (by omega))) (fun _ => ?_)
  refine wp_go (f' := (6, [.ref 28, .int (nI t), .retAddr 0, .retAddr 0, .retAddr 0], [.ref 28, .int (nI t)], MW A B F sw, 0, 0)) 2 rfl ?_
  refine wp_call rfl rfl rfl (ev_up (ev_all hM) (by decide)) ?_
  refine wp_eq (f' := (9, [.ref 28, .int (nI t), .retAddr 0, .retAddr 0, .retAddr 0], [.int (nI (2 ^ n - 1)), .int (nI t)], MW A B F sw, 0, 0)) rfl ?_
  refine wp_go (f' := ((if ((nI t) &&& ((nI (2 ^ n - 1)) ^^^ (-1))) = 0 then 18 else 15), [.ref 28, .int (nI t), .retAddr 0, .retAddr 0, .retAddr 0], [], MW A B F sw, 0, 0)) 4 rfl ?_
  refine wp_ite (fun _ => ?_) (fun h9 => absurd ((few_out hn (by omega)).mpr ht) h9)
  refine wp_go (f' := (22, [.ref 28, .int (nI t), .int (-1), .int (nI 0), .retAddr 0], [], MW A B F sw, 0, 0)) 4 rfl ?_
  refine for_ind (P := fun (k : Nat) (m : Int32) => ∀ (d4 : Value), mv_Wp xs Ls 2 6 false (some .int) mv_c137 (22, [.ref 28, .int (nI t), .int m, .int (nI k), d4], [], MW A B F sw, 0, 0) (some (.int (fewN n nb t)), MW A B F sw, 0, 0)) (f := fun s (m : Int32) => if (s &&& t = t ∧ wholeN n nb s = true) ∧ (m = -1 ∨ nI (if s = 0 then 0 else pop s - 1) < m) then nI (if s = 0 then 0 else pop s - 1) else m) (n := (2 ^ n)) ?_ (2 ^ n) (-1) (Nat.le_refl _) ?_  (.retAddr 0)
  · intro k m hk ih  d4
    refine wp_go (f' := (24, [.ref 28, .int (nI t), .int m, .int (nI k), d4], [.ref 28, .int (nI k)], MW A B F sw, 0, 0)) 2 rfl ?_
    refine wp_call rfl rfl rfl (ev_up (ev_all hM) (by decide)) ?_
    refine wp_eq (f' := (27, [.ref 28, .int (nI t), .int m, .int (nI k), d4], [.int (nI (2 ^ n - 1)), .int (nI k)], MW A B F sw, 0, 0)) rfl ?_
    refine wp_go (f' := ((if (nI (2 ^ n - 1)) < (nI k) then 85 else 30), [.ref 28, .int (nI t), .int m, .int (nI k), d4], [], MW A B F sw, 0, 0)) 1 rfl ?_
    refine wp_ite (fun h9 => absurd h9 (nI_nlt (by omega) (by omega))) (fun _ => ?_)
    refine wp_go (f' := (33, [.ref 28, .int (nI t), .int m, .int (nI k), d4], [.int ((nI k) &&& (nI t))], MW A B F sw, 0, 0)) 3 rfl ?_
    rw [bx_and]
    have hb1 : k &&& t < 1024 := by first | omega | exact or_lt (by omega) (by omega) | exact and_lt (by omega) | exact and_lt_r (by omega) | exact sd_lt (by omega) | exact pow_lt (by omega)
    refine wp_go (f' := ((if ¬ (nI (k &&& t)) = (nI t) then 79 else 37), [.ref 28, .int (nI t), .int m, .int (nI k), d4], [], MW A B F sw, 0, 0)) 2 rfl ?_
    refine wp_ite (fun h1 => ?_) (fun h1 => ?_)
    · have h1 : ¬ (k &&& t = t) := fun h9 => h1 ((nI_eq (a := k &&& t) (b := t) (by omega) (by omega)).mpr h9)
      refine wp_go (f' := (82, [.ref 28, .int (nI t), .int m, .int ((nI k) + 1), d4], [], MW A B F sw, 0, 0)) 1 rfl ?_
      rw [nI_1]
      refine wp_go (f' := (22, [.ref 28, .int (nI t), .int m, .int (nI (k + 1)), d4], [], MW A B F sw, 0, 0)) 1 rfl ?_
      refine wp_eq ?_ (ih d4)
      simp [h1]
    · have h1 := Classical.not_not.mp h1; have h1 : k &&& t = t := (nI_eq (a := k &&& t) (b := t) (by omega) (by omega)).mp h1
      refine wp_go (f' := (39, [.ref 28, .int (nI t), .int m, .int (nI k), d4], [.int (nI k), .ref 28], MW A B F sw, 0, 0)) 2 rfl ?_
      refine wp_call rfl rfl rfl (ev_up (ev_isWhole hM (s := k) (by omega)) (by decide)) ?_
      refine wp_eq (f' := (42, [.ref 28, .int (nI t), .int m, .int (nI k), d4], [.int (bI (wholeN n nb k))], MW A B F sw, 0, 0)) rfl ?_
      refine wp_go (f' := ((if (bI (wholeN n nb k)) = 0 then 79 else 45), [.ref 28, .int (nI t), .int m, .int (nI k), d4], [], MW A B F sw, 0, 0)) 1 rfl ?_
      refine wp_ite (fun h2 => ?_) (fun h2 => ?_)
      · have h2 := bI_0.mp h2
        refine wp_go (f' := (82, [.ref 28, .int (nI t), .int m, .int ((nI k) + 1), d4], [], MW A B F sw, 0, 0)) 1 rfl ?_
        rw [nI_1]
        refine wp_go (f' := (22, [.ref 28, .int (nI t), .int m, .int (nI (k + 1)), d4], [], MW A B F sw, 0, 0)) 1 rfl ?_
        refine wp_eq ?_ (ih d4)
        simp [h1, h2]
      · have h2 := bI_n0 h2
        refine wp_go (f' := ((if ¬ (nI k) = 0 then 53 else 49), [.ref 28, .int (nI t), .int m, .int (nI k), d4], [], MW A B F sw, 0, 0)) 2 rfl ?_
        refine wp_ite (fun h3 => ?_) (fun h3 => ?_)
        · have h3 : ¬ (k = 0) := fun h9 => h3 ((nI_eq (a := k) (b := 0) (by omega) (by omega)).mpr h9)
          refine wp_go (f' := (54, [.ref 28, .int (nI t), .int m, .int (nI k), d4], [.int (nI k)], MW A B F sw, 0, 0)) 1 rfl ?_
          refine wp_call rfl rfl rfl (ev_up (ev_onesN (s := k) (by omega) _) (by decide)) ?_
          refine wp_eq (f' := (57, [.ref 28, .int (nI t), .int m, .int (nI k), d4], [.int (nI (pop k))], MW A B F sw, 0, 0)) rfl ?_
          have hpp := pop_le (s := k) (by omega)
          have hpq := pop_pos (s := k) (by omega) (by omega)
          refine wp_go (f' := (59, [.ref 28, .int (nI t), .int m, .int (nI k), d4], [.int ((nI (pop k)) - (nI 1))], MW A B F sw, 0, 0)) 2 rfl ?_
          rw [pk_sub (by omega)]
          refine wp_go (f' := ((if m = (-1) then 72 else 66), [.ref 28, .int (nI t), .int m, .int (nI k), .int (nI ((pop k) - 1))], [], MW A B F sw, 0, 0)) 4 rfl ?_
          refine wp_ite (fun h4 => ?_) (fun h4 => ?_)
          · skip
            refine wp_go (f' := (82, [.ref 28, .int (nI t), .int (nI ((pop k) - 1)), .int ((nI k) + 1), .int (nI ((pop k) - 1))], [], MW A B F sw, 0, 0)) 4 rfl ?_
            rw [nI_1]
            refine wp_go (f' := (22, [.ref 28, .int (nI t), .int (nI ((pop k) - 1)), .int (nI (k + 1)), .int (nI ((pop k) - 1))], [], MW A B F sw, 0, 0)) 1 rfl ?_
            refine wp_eq ?_ (ih (.int (nI ((pop k) - 1))))
            simp only [if_neg h3]
            simp [h1, h2, h4]
          · skip
            refine wp_go (f' := ((if m ≤ (nI ((pop k) - 1)) then 77 else 72), [.ref 28, .int (nI t), .int m, .int (nI k), .int (nI ((pop k) - 1))], [], MW A B F sw, 0, 0)) 3 rfl ?_
            refine wp_ite (fun h5 => ?_) (fun h5 => ?_)
            · skip
              refine wp_go (f' := (82, [.ref 28, .int (nI t), .int m, .int ((nI k) + 1), .int (nI ((pop k) - 1))], [], MW A B F sw, 0, 0)) 3 rfl ?_
              rw [nI_1]
              refine wp_go (f' := (22, [.ref 28, .int (nI t), .int m, .int (nI (k + 1)), .int (nI ((pop k) - 1))], [], MW A B F sw, 0, 0)) 1 rfl ?_
              refine wp_eq ?_ (ih (.int (nI ((pop k) - 1))))
              simp only [if_neg h3]
              simp [h1, h2, h4, Int32.not_lt.mpr h5]
            · skip
              refine wp_go (f' := (82, [.ref 28, .int (nI t), .int (nI ((pop k) - 1)), .int ((nI k) + 1), .int (nI ((pop k) - 1))], [], MW A B F sw, 0, 0)) 4 rfl ?_
              rw [nI_1]
              refine wp_go (f' := (22, [.ref 28, .int (nI t), .int (nI ((pop k) - 1)), .int (nI (k + 1)), .int (nI ((pop k) - 1))], [], MW A B F sw, 0, 0)) 1 rfl ?_
              refine wp_eq ?_ (ih (.int (nI ((pop k) - 1))))
              simp only [if_neg h3]
              simp [h1, h2, h4, Int32.not_le.mp h5]
        · have h3 := Classical.not_not.mp h3; have h3 : k = 0 := (nI_eq (a := k) (b := 0) (by omega) (by omega)).mp h3
          refine wp_go (f' := ((if m = (-1) then 72 else 66), [.ref 28, .int (nI t), .int m, .int (nI k), .int (nI 0)], [], MW A B F sw, 0, 0)) 6 rfl ?_
          refine wp_ite (fun h6 => ?_) (fun h6 => ?_)
          · skip
            refine wp_go (f' := (82, [.ref 28, .int (nI t), .int (nI 0), .int ((nI k) + 1), .int (nI 0)], [], MW A B F sw, 0, 0)) 4 rfl ?_
            rw [nI_1]
            refine wp_go (f' := (22, [.ref 28, .int (nI t), .int (nI 0), .int (nI (k + 1)), .int (nI 0)], [], MW A B F sw, 0, 0)) 1 rfl ?_
            refine wp_eq ?_ (ih (.int (nI 0)))
            simp only [if_pos h3]
            simp [h1, h2, h6]
          · skip
            refine wp_go (f' := ((if m ≤ (nI 0) then 77 else 72), [.ref 28, .int (nI t), .int m, .int (nI k), .int (nI 0)], [], MW A B F sw, 0, 0)) 3 rfl ?_
            refine wp_ite (fun h7 => ?_) (fun h7 => ?_)
            · skip
              refine wp_go (f' := (82, [.ref 28, .int (nI t), .int m, .int ((nI k) + 1), .int (nI 0)], [], MW A B F sw, 0, 0)) 3 rfl ?_
              rw [nI_1]
              refine wp_go (f' := (22, [.ref 28, .int (nI t), .int m, .int (nI (k + 1)), .int (nI 0)], [], MW A B F sw, 0, 0)) 1 rfl ?_
              refine wp_eq ?_ (ih (.int (nI 0)))
              simp only [if_pos h3]
              simp [h1, h2, h6, Int32.not_lt.mpr h7]
            · skip
              refine wp_go (f' := (82, [.ref 28, .int (nI t), .int (nI 0), .int ((nI k) + 1), .int (nI 0)], [], MW A B F sw, 0, 0)) 4 rfl ?_
              rw [nI_1]
              refine wp_go (f' := (22, [.ref 28, .int (nI t), .int (nI 0), .int (nI (k + 1)), .int (nI 0)], [], MW A B F sw, 0, 0)) 1 rfl ?_
              refine wp_eq ?_ (ih (.int (nI 0)))
              simp only [if_pos h3]
              simp [h1, h2, h6, Int32.not_le.mp h7]
  · intro  d4
    refine wp_go (f' := (24, [.ref 28, .int (nI t), .int (fewN n nb t), .int (nI (2 ^ n)), d4], [.ref 28, .int (nI (2 ^ n))], MW A B F sw, 0, 0)) 2 rfl ?_
    refine wp_call rfl rfl rfl (ev_up (ev_all hM) (by decide)) ?_
    refine wp_eq (f' := (27, [.ref 28, .int (nI t), .int (fewN n nb t), .int (nI (2 ^ n)), d4], [.int (nI (2 ^ n - 1)), .int (nI (2 ^ n))], MW A B F sw, 0, 0)) rfl ?_
    refine wp_go (f' := ((if (nI (2 ^ n - 1)) < (nI (2 ^ n)) then 85 else 30), [.ref 28, .int (nI t), .int (fewN n nb t), .int (nI (2 ^ n)), d4], [], MW A B F sw, 0, 0)) 1 rfl ?_
    refine wp_ite (fun _ => ?_) (fun h9 => absurd (nI_lt (by omega) (by omega)) h9)
    refine wp_go (f' := (86, [.ref 28, .int (nI t), .int (fewN n nb t), .int (nI (2 ^ n)), d4], [.int (fewN n nb t)], MW A B F sw, 0, 0)) 1 rfl ?_
    exact wp_iret rfl
end MM
