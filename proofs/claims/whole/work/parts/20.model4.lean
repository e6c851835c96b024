section MM
variable {xs : Nat → Int32} {Ls : Nat} {A : Nat → Nat → Int32} {B : Nat → Nat → Int64} {F : Nat → Int32} {sw : Bool} {n : Nat} {nb : Nat → Nat}
theorem lp_isClique (hM : MI A F n nb) {s : Nat} (hs : s < 1024) (b0 : Bool) (d4 : Value) : mv_Wp xs Ls 0 6 false (some .boolean) mv_c105 (12, [.ref 28, .int (nI s), .int (bI b0), .int (nI 0), d4], [], MW A B F sw, 0, 0) (some (.int (bI (forN (fun k b => b && (if s.testBit k then decide (nb k &&& s = sd s (2 ^ k)) else decide (¬ nb k &&& s = s))) n b0))), MW A B F sw, 0, 0) := by
  have hn := hM.1
  refine for_ind (P := fun (k : Nat) (b : Bool) => ∀ (d4 : Value), mv_Wp xs Ls 0 6 false (some .boolean) mv_c105 (12, [.ref 28, .int (nI s), .int (bI b), .int (nI k), d4], [], MW A B F sw, 0, 0) (some (.int (bI (forN (fun k b => b && (if s.testBit k then decide (nb k &&& s = sd s (2 ^ k)) else decide (¬ nb k &&& s = s))) n b0))), MW A B F sw, 0, 0)) (f := fun k b => b && (if s.testBit k then decide (nb k &&& s = sd s (2 ^ k)) else decide (¬ nb k &&& s = s))) (n := n) ?_ n b0 (Nat.le_refl _) ?_ d4
  · intro k b hk ih d4
    refine wp_go (f' := (17, [.ref 28, .int (nI s), .int (bI b), .int (nI k), d4], [.int (F 6), .int (nI k)], MW A B F sw, 0, 0)) 3 rfl ?_
    rw [hM.2.1]
    refine wp_go (f' := ((if (nI n) ≤ (nI k) then 76 else 20), [.ref 28, .int (nI s), .int (bI b), .int (nI k), d4], [], MW A B F sw, 0, 0)) 1 rfl ?_
    refine wp_ite (fun h9 => absurd h9 (nI_ge hk (by omega))) (fun _ => ?_)
    refine wp_go (f' := (25, [.ref 28, .int (nI s), .int (bI b), .int (nI k), d4], [.int (nI k), .ref 29], MW A B F sw, 0, 0)) 3 rfl ?_
    refine wp_iald rfl rfl (by omega) (by decide) ?_
    rw [hM.2.2.1 k (by omega)]
    have hnb := hM.2.2.2 k (by omega)
    refine wp_go (f' := (28, [.ref 28, .int (nI s), .int (bI b), .int (nI k), d4], [.int ((nI (nb k)) &&& (nI s))], MW A B F sw, 0, 0)) 2 rfl ?_
    rw [bx_and]
    have hb1 : (nb k) &&& s < 1024 := by first | omega | exact or_lt (by omega) (by omega) | exact and_lt (by omega) | exact and_lt_r (by omega) | exact sd_lt (by omega) | exact pow_lt (by omega)
    refine wp_go (f' := ((if (bI b) = 0 then 68 else 34), [.ref 28, .int (nI s), .int (bI b), .int (nI k), .int (nI ((nb k) &&& s))], [], MW A B F sw, 0, 0)) 3 rfl ?_
    refine wp_ite (fun h1 => ?_) (fun h1 => ?_)
    · have h1 := bI_0.mp h1
      refine wp_go (f' := (73, [.ref 28, .int (nI s), .int (nI 0), .int ((nI k) + 1), .int (nI ((nb k) &&& s))], [], MW A B F sw, 0, 0)) 3 rfl ?_
      rw [nI_1]
      refine wp_go (f' := (12, [.ref 28, .int (nI s), .int (nI 0), .int (nI (k + 1)), .int (nI ((nb k) &&& s))], [], MW A B F sw, 0, 0)) 1 rfl ?_
      refine wp_eq ?_ (ih (.int (nI ((nb k) &&& s))))
      simp [h1, bIT, bIF, nI1, nI0]
    · have h1 := bI_n0 h1
      refine wp_go (f' := (39, [.ref 28, .int (nI s), .int (bI b), .int (nI k), .int (nI ((nb k) &&& s))], [.int (((nI s) >>> ((nI k) &&& 31)) &&& (nI 1))], MW A B F sw, 0, 0)) 5 rfl ?_
      rw [bx_bit (by omega) (by omega)]
      refine wp_go (f' := ((if ¬ (bI (s.testBit k)) = (nI 1) then 58 else 43), [.ref 28, .int (nI s), .int (bI b), .int (nI k), .int (nI ((nb k) &&& s))], [], MW A B F sw, 0, 0)) 2 rfl ?_
      refine wp_ite (fun h2 => ?_) (fun h2 => ?_)
      · have h2 := bI_n1 h2
        refine wp_go (f' := ((if (nI ((nb k) &&& s)) = (nI s) then 68 else 64), [.ref 28, .int (nI s), .int (bI b), .int (nI k), .int (nI ((nb k) &&& s))], [], MW A B F sw, 0, 0)) 3 rfl ?_
        refine wp_ite (fun h3 => ?_) (fun h3 => ?_)
        · have h3 : (nb k) &&& s = s := (nI_eq (a := (nb k) &&& s) (b := s) (by omega) (by omega)).mp h3
          refine wp_go (f' := (73, [.ref 28, .int (nI s), .int (nI 0), .int ((nI k) + 1), .int (nI ((nb k) &&& s))], [], MW A B F sw, 0, 0)) 3 rfl ?_
          rw [nI_1]
          refine wp_go (f' := (12, [.ref 28, .int (nI s), .int (nI 0), .int (nI (k + 1)), .int (nI ((nb k) &&& s))], [], MW A B F sw, 0, 0)) 1 rfl ?_
          refine wp_eq ?_ (ih (.int (nI ((nb k) &&& s))))
          simp [h1, h2, h3, bIT, bIF, nI1, nI0]
        · have h3 : ¬ ((nb k) &&& s = s) := fun h9 => h3 ((nI_eq (a := (nb k) &&& s) (b := s) (by omega) (by omega)).mpr h9)
          refine wp_go (f' := (73, [.ref 28, .int (nI s), .int (nI 1), .int ((nI k) + 1), .int (nI ((nb k) &&& s))], [], MW A B F sw, 0, 0)) 4 rfl ?_
          rw [nI_1]
          refine wp_go (f' := (12, [.ref 28, .int (nI s), .int (nI 1), .int (nI (k + 1)), .int (nI ((nb k) &&& s))], [], MW A B F sw, 0, 0)) 1 rfl ?_
          refine wp_eq ?_ (ih (.int (nI ((nb k) &&& s))))
          simp [h1, h2, h3, bIT, bIF, nI1, nI0]
      · have h2 := Classical.not_not.mp h2; have h2 := bI_1.mp h2
        refine wp_go (f' := (49, [.ref 28, .int (nI s), .int (bI b), .int (nI k), .int (nI ((nb k) &&& s))], [.int ((nI 1) <<< ((nI k) &&& 31)), .int (nI s), .int (nI ((nb k) &&& s))], MW A B F sw, 0, 0)) 5 rfl ?_
        rw [bx_one (by omega)]
        have hb2 : 2 ^ k < 1024 := by first | omega | exact or_lt (by omega) (by omega) | exact and_lt (by omega) | exact and_lt_r (by omega) | exact sd_lt (by omega) | exact pow_lt (by omega)
        refine wp_go (f' := (52, [.ref 28, .int (nI s), .int (bI b), .int (nI k), .int (nI ((nb k) &&& s))], [.int ((nI s) &&& ((nI (2 ^ k)) ^^^ (-1))), .int (nI ((nb k) &&& s))], MW A B F sw, 0, 0)) 3 rfl ?_
        rw [bx_sd (by omega)]
        have hb3 : sd s (2 ^ k) < 1024 := by first | omega | exact or_lt (by omega) (by omega) | exact and_lt (by omega) | exact and_lt_r (by omega) | exact sd_lt (by omega) | exact pow_lt (by omega)
        refine wp_go (f' := ((if ¬ (nI ((nb k) &&& s)) = (nI (sd s (2 ^ k))) then 68 else 55), [.ref 28, .int (nI s), .int (bI b), .int (nI k), .int (nI ((nb k) &&& s))], [], MW A B F sw, 0, 0)) 1 rfl ?_
        refine wp_ite (fun h4 => ?_) (fun h4 => ?_)
        · have h4 : ¬ ((nb k) &&& s = sd s (2 ^ k)) := fun h9 => h4 ((nI_eq (a := (nb k) &&& s) (b := sd s (2 ^ k)) (by omega) (by omega)).mpr h9)
          refine wp_go (f' := (73, [.ref 28, .int (nI s), .int (nI 0), .int ((nI k) + 1), .int (nI ((nb k) &&& s))], [], MW A B F sw, 0, 0)) 3 rfl ?_
          rw [nI_1]
          refine wp_go (f' := (12, [.ref 28, .int (nI s), .int (nI 0), .int (nI (k + 1)), .int (nI ((nb k) &&& s))], [], MW A B F sw, 0, 0)) 1 rfl ?_
          refine wp_eq ?_ (ih (.int (nI ((nb k) &&& s))))
          simp [h1, h2, h4, bIT, bIF, nI1, nI0]
        · have h4 := Classical.not_not.mp h4; have h4 : (nb k) &&& s = sd s (2 ^ k) := (nI_eq (a := (nb k) &&& s) (b := sd s (2 ^ k)) (by omega) (by omega)).mp h4
          refine wp_go (f' := (73, [.ref 28, .int (nI s), .int (nI 1), .int ((nI k) + 1), .int (nI ((nb k) &&& s))], [], MW A B F sw, 0, 0)) 5 rfl ?_
          rw [nI_1]
          refine wp_go (f' := (12, [.ref 28, .int (nI s), .int (nI 1), .int (nI (k + 1)), .int (nI ((nb k) &&& s))], [], MW A B F sw, 0, 0)) 1 rfl ?_
          refine wp_eq ?_ (ih (.int (nI ((nb k) &&& s))))
          simp [h1, h2, h4, bIT, bIF, nI1, nI0]
  · intro d4
    refine wp_go (f' := (17, [.ref 28, .int (nI s), .int (bI (forN (fun k b => b && (if s.testBit k then decide (nb k &&& s = sd s (2 ^ k)) else decide (¬ nb k &&& s = s))) n b0)), .int (nI n), d4], [.int (F 6), .int (nI n)], MW A B F sw, 0, 0)) 3 rfl ?_
    rw [hM.2.1]
    refine wp_go (f' := ((if (nI n) ≤ (nI n) then 76 else 20), [.ref 28, .int (nI s), .int (bI (forN (fun k b => b && (if s.testBit k then decide (nb k &&& s = sd s (2 ^ k)) else decide (¬ nb k &&& s = s))) n b0)), .int (nI n), d4], [], MW A B F sw, 0, 0)) 1 rfl ?_
    refine wp_ite (fun _ => ?_) (fun h9 => absurd (nI_le (Nat.le_refl _) (by omega)) h9)
    refine wp_go (f' := (77, [.ref 28, .int (nI s), .int (bI (forN (fun k b => b && (if s.testBit k then decide (nb k &&& s = sd s (2 ^ k)) else decide (¬ nb k &&& s = s))) n b0)), .int (nI n), d4], [.int (bI (forN (fun k b => b && (if s.testBit k then decide (nb k &&& s = sd s (2 ^ k)) else decide (¬ nb k &&& s = s))) n b0))], MW A B F sw, 0, 0)) 1 rfl ?_
    exact wp_zret rfl (bI_01 _)
theorem ev_isClique (hM : MI A F n nb) {s : Nat} (hs : s < 1024) : mv_Ev xs Ls 1 105 [.ref 28, .int (nI s)] (MW A B F sw) (some (.int (bI (cliqueN n nb s))), MW A B F sw, 0, 0) := by
  refine ev_of_wp rfl rfl rfl ?_
  refine wp_go (f' := ((if (nI s) = 0 then 8 else 4), [.ref 28, .int (nI s), .retAddr 0, .retAddr 0, .retAddr 0], [], MW A B F sw, 0, 0)) 2 rfl ?_
  refine wp_ite (fun h1 => ?_) (fun h1 => ?_)
  · have h1 : s = 0 := (nI_eq (a := s) (b := 0) (by omega) (by omega)).mp h1
    refine wp_go (f' := (12, [.ref 28, .int (nI s), .int (nI 0), .int (nI 0), .retAddr 0], [], MW A B F sw, 0, 0)) 4 rfl ?_
    unfold cliqueN
    rw [show decide (¬ s = 0) = false by simp [h1]]
    exact lp_isClique hM hs false (.retAddr 0)
  · have h1 : ¬ (s = 0) := fun h9 => h1 ((nI_eq (a := s) (b := 0) (by omega) (by omega)).mpr h9)
    refine wp_go (f' := (12, [.ref 28, .int (nI s), .int (nI 1), .int (nI 0), .retAddr 0], [], MW A B F sw, 0, 0)) 5 rfl ?_
    unfold cliqueN
    rw [show decide (¬ s = 0) = true by simp [h1]]
    exact lp_isClique hM hs true (.retAddr 0)
theorem lp_isHole (hM : MI A F n nb) {s : Nat} (hs : s < 1024) (b0 : Bool)  : mv_Wp xs Ls 2 6 false (some .boolean) mv_c99 (24, [.ref 28, .int (nI s), .int (bI b0), .int (nI 0)], [], MW A B F sw, 0, 0) (some (.int (bI (forN (fun k b => b && (!(s.testBit k) || decide (pop (nb k &&& s) = 2))) n b0))), MW A B F sw, 0, 0) := by
  have hn := hM.1
  refine for_ind (P := fun (k : Nat) (b : Bool) => mv_Wp xs Ls 2 6 false (some .boolean) mv_c99 (24, [.ref 28, .int (nI s), .int (bI b), .int (nI k)], [], MW A B F sw, 0, 0) (some (.int (bI (forN (fun k b => b && (!(s.testBit k) || decide (pop (nb k &&& s) = 2))) n b0))), MW A B F sw, 0, 0)) (f := fun k b => b && (!(s.testBit k) || decide (pop (nb k &&& s) = 2))) (n := n) ?_ n b0 (Nat.le_refl _) ?_ 
  · intro k b hk ih 
    refine wp_go (f' := (29, [.ref 28, .int (nI s), .int (bI b), .int (nI k)], [.int (F 6), .int (nI k)], MW A B F sw, 0, 0)) 3 rfl ?_
    rw [hM.2.1]
    refine wp_go (f' := ((if (nI n) ≤ (nI k) then 71 else 32), [.ref 28, .int (nI s), .int (bI b), .int (nI k)], [], MW A B F sw, 0, 0)) 1 rfl ?_
    refine wp_ite (fun h9 => absurd h9 (nI_ge hk (by omega))) (fun _ => ?_)
    refine wp_go (f' := ((if (bI b) = 0 then 63 else 36), [.ref 28, .int (nI s), .int (bI b), .int (nI k)], [], MW A B F sw, 0, 0)) 2 rfl ?_
    refine wp_ite (fun h1 => ?_) (fun h1 => ?_)
    · have h1 := bI_0.mp h1
      refine wp_go (f' := (68, [.ref 28, .int (nI s), .int (nI 0), .int ((nI k) + 1)], [], MW A B F sw, 0, 0)) 3 rfl ?_
      rw [nI_1]
      refine wp_go (f' := (24, [.ref 28, .int (nI s), .int (nI 0), .int (nI (k + 1))], [], MW A B F sw, 0, 0)) 1 rfl ?_
      refine wp_eq ?_ ih
      simp [h1, bIT, bIF, nI1, nI0]
    · have h1 := bI_n0 h1
      refine wp_go (f' := (41, [.ref 28, .int (nI s), .int (bI b), .int (nI k)], [.int (((nI s) >>> ((nI k) &&& 31)) &&& (nI 1))], MW A B F sw, 0, 0)) 5 rfl ?_
      rw [bx_bit (by omega) (by omega)]
      refine wp_go (f' := ((if (bI (s.testBit k)) = 0 then 59 else 44), [.ref 28, .int (nI s), .int (bI b), .int (nI k)], [], MW A B F sw, 0, 0)) 1 rfl ?_
      refine wp_ite (fun h2 => ?_) (fun h2 => ?_)
      · have h2 := bI_0.mp h2
        refine wp_go (f' := (68, [.ref 28, .int (nI s), .int (nI 1), .int ((nI k) + 1)], [], MW A B F sw, 0, 0)) 4 rfl ?_
        rw [nI_1]
        refine wp_go (f' := (24, [.ref 28, .int (nI s), .int (nI 1), .int (nI (k + 1))], [], MW A B F sw, 0, 0)) 1 rfl ?_
        refine wp_eq ?_ ih
        simp [h1, h2, bIT, bIF, nI1, nI0]
      · have h2 := bI_n0 h2
        refine wp_go (f' := (49, [.ref 28, .int (nI s), .int (bI b), .int (nI k)], [.int (nI k), .ref 29], MW A B F sw, 0, 0)) 3 rfl ?_
        refine wp_iald rfl rfl (by omega) (by decide) ?_
        rw [hM.2.2.1 k (by omega)]
        have hnb := hM.2.2.2 k (by omega)
        refine wp_go (f' := (52, [.ref 28, .int (nI s), .int (bI b), .int (nI k)], [.int ((nI (nb k)) &&& (nI s))], MW A B F sw, 0, 0)) 2 rfl ?_
        rw [bx_and]
        have hb1 : (nb k) &&& s < 1024 := by first | omega | exact or_lt (by omega) (by omega) | exact and_lt (by omega) | exact and_lt_r (by omega) | exact sd_lt (by omega) | exact pow_lt (by omega)
        refine wp_call rfl rfl rfl (ev_up (ev_onesN (s := (nb k) &&& s) (by omega) _) (by decide)) ?_
        refine wp_eq (f' := (55, [.ref 28, .int (nI s), .int (bI b), .int (nI k)], [.int (nI (pop ((nb k) &&& s)))], MW A B F sw, 0, 0)) rfl ?_
        have hpp := pop_le (s := (nb k) &&& s) (by omega)
        refine wp_go (f' := ((if ¬ (nI (pop ((nb k) &&& s))) = (nI 2) then 63 else 59), [.ref 28, .int (nI s), .int (bI b), .int (nI k)], [], MW A B F sw, 0, 0)) 2 rfl ?_
        refine wp_ite (fun h3 => ?_) (fun h3 => ?_)
        · have h3 : ¬ (pop ((nb k) &&& s) = 2) := fun h9 => h3 ((nI_eq (a := pop ((nb k) &&& s)) (b := 2) (by omega) (by omega)).mpr h9)
          refine wp_go (f' := (68, [.ref 28, .int (nI s), .int (nI 0), .int ((nI k) + 1)], [], MW A B F sw, 0, 0)) 3 rfl ?_
          rw [nI_1]
          refine wp_go (f' := (24, [.ref 28, .int (nI s), .int (nI 0), .int (nI (k + 1))], [], MW A B F sw, 0, 0)) 1 rfl ?_
          refine wp_eq ?_ ih
          simp [h1, h2, h3, bIT, bIF, nI1, nI0]
        · have h3 := Classical.not_not.mp h3; have h3 : pop ((nb k) &&& s) = 2 := (nI_eq (a := pop ((nb k) &&& s)) (b := 2) (by omega) (by omega)).mp h3
          refine wp_go (f' := (68, [.ref 28, .int (nI s), .int (nI 1), .int ((nI k) + 1)], [], MW A B F sw, 0, 0)) 4 rfl ?_
          rw [nI_1]
          refine wp_go (f' := (24, [.ref 28, .int (nI s), .int (nI 1), .int (nI (k + 1))], [], MW A B F sw, 0, 0)) 1 rfl ?_
          refine wp_eq ?_ ih
          simp [h1, h2, h3, bIT, bIF, nI1, nI0]
  · skip
    refine wp_go (f' := (29, [.ref 28, .int (nI s), .int (bI (forN (fun k b => b && (!(s.testBit k) || decide (pop (nb k &&& s) = 2))) n b0)), .int (nI n)], [.int (F 6), .int (nI n)], MW A B F sw, 0, 0)) 3 rfl ?_
    rw [hM.2.1]
    refine wp_go (f' := ((if (nI n) ≤ (nI n) then 71 else 32), [.ref 28, .int (nI s), .int (bI (forN (fun k b => b && (!(s.testBit k) || decide (pop (nb k &&& s) = 2))) n b0)), .int (nI n)], [], MW A B F sw, 0, 0)) 1 rfl ?_
    refine wp_ite (fun _ => ?_) (fun h9 => absurd (nI_le (Nat.le_refl _) (by omega)) h9)
    refine wp_go (f' := (72, [.ref 28, .int (nI s), .int (bI (forN (fun k b => b && (!(s.testBit k) || decide (pop (nb k &&& s) = 2))) n b0)), .int (nI n)], [.int (bI (forN (fun k b => b && (!(s.testBit k) || decide (pop (nb k &&& s) = 2))) n b0))], MW A B F sw, 0, 0)) 1 rfl ?_
    exact wp_zret rfl (bI_01 _)
theorem ev_isHole (hM : MI A F n nb) {s : Nat} (hs : s < 1024) : mv_Ev xs Ls 3 99 [.ref 28, .int (nI s)] (MW A B F sw) (some (.int (bI (holeN n nb s))), MW A B F sw, 0, 0) := by
  refine ev_of_wp rfl rfl rfl ?_
  have hn := hM.1
  refine wp_go (f' := (1, [.ref 28, .int (nI s), .retAddr 0, .retAddr 0], [.int (nI s)], MW A B F sw, 0, 0)) 1 rfl ?_
  refine wp_call rfl rfl rfl (ev_up (ev_onesN (s := s) (by omega) _) (by decide)) ?_
  refine wp_eq (f' := (4, [.ref 28, .int (nI s), .retAddr 0, .retAddr 0], [.int (nI (pop s))], MW A B F sw, 0, 0)) rfl ?_
  have hpp := pop_le (s := s) (by omega)
  refine wp_go (f' := ((if (nI (pop s)) ≤ (nI 3) then 20 else 8), [.ref 28, .int (nI s), .retAddr 0, .retAddr 0], [], MW A B F sw, 0, 0)) 2 rfl ?_
  refine wp_ite (fun h1 => ?_) (fun h1 => ?_)
  · have h1 : pop s ≤ 3 := (nI_leI (a := pop s) (b := 3) (by omega) (by omega)).mp h1
    refine wp_go (f' := (24, [.ref 28, .int (nI s), .int (nI 0), .int (nI 0)], [], MW A B F sw, 0, 0)) 4 rfl ?_
    unfold holeN
    rw [show (decide (3 < pop s) && wholeN n nb s) = false by simp [h1] <;> omega]
    exact lp_isHole hM hs false
  · have h1 : ¬ (pop s ≤ 3) := fun h9 => h1 ((nI_leI (a := pop s) (b := 3) (by omega) (by omega)).mpr h9)
    refine wp_go (f' := (10, [.ref 28, .int (nI s), .retAddr 0, .retAddr 0], [.int (nI s), .ref 28], MW A B F sw, 0, 0)) 2 rfl ?_
    refine wp_call rfl rfl rfl (ev_up (ev_isWhole hM (s := s) (by omega)) (by decide)) ?_
    refine wp_eq (f' := (13, [.ref 28, .int (nI s), .retAddr 0, .retAddr 0], [.int (bI (wholeN n nb s))], MW A B F sw, 0, 0)) rfl ?_
    refine wp_go (f' := ((if (bI (wholeN n nb s)) = 0 then 20 else 16), [.ref 28, .int (nI s), .retAddr 0, .retAddr 0], [], MW A B F sw, 0, 0)) 1 rfl ?_
    refine wp_ite (fun h2 => ?_) (fun h2 => ?_)
    · have h2 := bI_0.mp h2
      refine wp_go (f' := (24, [.ref 28, .int (nI s), .int (nI 0), .int (nI 0)], [], MW A B F sw, 0, 0)) 4 rfl ?_
      unfold holeN
      rw [show (decide (3 < pop s) && wholeN n nb s) = false by simp [h1, h2]]
      exact lp_isHole hM hs false
    · have h2 := bI_n0 h2
      refine wp_go (f' := (24, [.ref 28, .int (nI s), .int (nI 1), .int (nI 0)], [], MW A B F sw, 0, 0)) 5 rfl ?_
      unfold holeN
      rw [show (decide (3 < pop s) && wholeN n nb s) = true by simp [h1, h2] <;> omega]
      exact lp_isHole hM hs true
theorem degsN_le {n : Nat} {nb : Nat → Nat} (hn : n ≤ 10) {s : Nat} (hs : s < 1024) : degsN n nb s ≤ 10 * n := by
  refine forN_inv (I := fun k m => m ≤ 10 * k) (Nat.le_refl _) (fun k m hk hm => ?_) n (Nat.le_refl _)
  split
  · have := pop_le (s := nb k &&& s) (and_lt_r hs)
    omega
  · omega
/-- the edges within s -/
def edgesN (n : Nat) (nb : Nat → Nat) (s : Nat) : Nat := degsN n nb s / 2
theorem ev_edgesIn (hM : MI A F n nb) {s : Nat} (hs : s < 1024) : mv_Ev xs Ls 2 128 [.ref 28, .int (nI s)] (MW A B F sw) (some (.int (nI (edgesN n nb s))), MW A B F sw, 0, 0) := by
  refine ev_of_wp rfl rfl rfl ?_
  have hn := hM.1
  have hdg := degsN_le (nb := nb) hM.1 hs
  refine wp_go (f' := (4, [.ref 28, .int (nI s), .int (nI 0), .int (nI 0)], [], MW A B F sw, 0, 0)) 4 rfl ?_
  refine for_ind (P := fun (k : Nat) (m : Nat) => mv_Wp xs Ls 1 6 false (some .int) mv_c128 (4, [.ref 28, .int (nI s), .int (nI m), .int (nI k)], [], MW A B F sw, 0, 0) (some (.int (nI (edgesN n nb s))), MW A B F sw, 0, 0)) (f := fun k m => m + (if s.testBit k then pop (nb k &&& s) else 0)) (n := n) ?_ n 0 (Nat.le_refl _) ?_
  · intro k m hk ih
    refine wp_go (f' := (9, [.ref 28, .int (nI s), .int (nI m), .int (nI k)], [.int (F 6), .int (nI k)], MW A B F sw, 0, 0)) 3 rfl ?_
    rw [hM.2.1]
    refine wp_go (f' := ((if (nI n) ≤ (nI k) then 45 else 12), [.ref 28, .int (nI s), .int (nI m), .int (nI k)], [], MW A B F sw, 0, 0)) 1 rfl ?_
    refine wp_ite (fun h9 => absurd h9 (nI_ge hk (by omega))) (fun _ => ?_)
    refine wp_go (f' := (18, [.ref 28, .int (nI s), .int (nI m), .int (nI k)], [.int (((nI s) >>> ((nI k) &&& 31)) &&& (nI 1)), .int (nI m)], MW A B F sw, 0, 0)) 6 rfl ?_
    rw [bx_bit (by omega) (by omega)]
    refine wp_go (f' := ((if ¬ (bI (s.testBit k)) = (nI 1) then 36 else 22), [.ref 28, .int (nI s), .int (nI m), .int (nI k)], [.int (nI m)], MW A B F sw, 0, 0)) 2 rfl ?_
    refine wp_ite (fun h1 => ?_) (fun h1 => ?_)
    · have h1 := bI_n1 h1
      refine wp_go (f' := (38, [.ref 28, .int (nI s), .int (nI m), .int (nI k)], [.int ((nI m) + (nI 0))], MW A B F sw, 0, 0)) 2 rfl ?_
      rw [nI_add]
      refine wp_go (f' := (42, [.ref 28, .int (nI s), .int (nI (m + 0)), .int ((nI k) + 1)], [], MW A B F sw, 0, 0)) 2 rfl ?_
      rw [nI_1]
      refine wp_go (f' := (4, [.ref 28, .int (nI s), .int (nI (m + 0)), .int (nI (k + 1))], [], MW A B F sw, 0, 0)) 1 rfl ?_
      refine wp_eq ?_ ih
      simp [h1, nI_add]
    · have h1 := Classical.not_not.mp h1; have h1 := bI_1.mp h1
      refine wp_go (f' := (27, [.ref 28, .int (nI s), .int (nI m), .int (nI k)], [.int (nI k), .ref 29, .int (nI m)], MW A B F sw, 0, 0)) 3 rfl ?_
      refine wp_iald rfl rfl (by omega) (by decide) ?_
      rw [hM.2.2.1 k (by omega)]
      have hnb := hM.2.2.2 k (by omega)
      refine wp_go (f' := (30, [.ref 28, .int (nI s), .int (nI m), .int (nI k)], [.int ((nI (nb k)) &&& (nI s)), .int (nI m)], MW A B F sw, 0, 0)) 2 rfl ?_
      rw [bx_and]
      have hb1 : (nb k) &&& s < 1024 := by first | omega | exact or_lt (by omega) (by omega) | exact and_lt (by omega) | exact and_lt_r (by omega) | exact sd_lt (by omega) | exact pow_lt (by omega)
      refine wp_call rfl rfl rfl (ev_up (ev_onesN (s := (nb k) &&& s) (by omega) _) (by decide)) ?_
      refine wp_eq (f' := (33, [.ref 28, .int (nI s), .int (nI m), .int (nI k)], [.int (nI (pop ((nb k) &&& s))), .int (nI m)], MW A B F sw, 0, 0)) rfl ?_
      have hpp := pop_le (s := (nb k) &&& s) (by omega)
      refine wp_go (f' := (38, [.ref 28, .int (nI s), .int (nI m), .int (nI k)], [.int ((nI m) + (nI (pop ((nb k) &&& s))))], MW A B F sw, 0, 0)) 2 rfl ?_
      rw [nI_add]
      refine wp_go (f' := (42, [.ref 28, .int (nI s), .int (nI (m + (pop ((nb k) &&& s)))), .int ((nI k) + 1)], [], MW A B F sw, 0, 0)) 2 rfl ?_
      rw [nI_1]
      refine wp_go (f' := (4, [.ref 28, .int (nI s), .int (nI (m + (pop ((nb k) &&& s)))), .int (nI (k + 1))], [], MW A B F sw, 0, 0)) 1 rfl ?_
      refine wp_eq ?_ ih
      simp [h1, nI_add]
  · skip
    refine wp_go (f' := (9, [.ref 28, .int (nI s), .int (nI (degsN n nb s)), .int (nI n)], [.int (F 6), .int (nI n)], MW A B F sw, 0, 0)) 3 rfl ?_
    rw [hM.2.1]
    refine wp_go (f' := ((if (nI n) ≤ (nI n) then 45 else 12), [.ref 28, .int (nI s), .int (nI (degsN n nb s)), .int (nI n)], [], MW A B F sw, 0, 0)) 1 rfl ?_
    refine wp_ite (fun _ => ?_) (fun h9 => absurd (nI_le (Nat.le_refl _) (by omega)) h9)
    refine wp_go (f' := (48, [.ref 28, .int (nI s), .int (nI (degsN n nb s)), .int (nI n)], [.int ((nI (degsN n nb s)) / (nI 2))], MW A B F sw, 0, 0)) 3 rfl ?_
    rw [pk_div (a := degsN n nb s) (d := 2) (by omega) (by decide) (by decide)]
    exact wp_iret rfl
theorem edgesN_le {n : Nat} {nb : Nat → Nat} (hn : n ≤ 10) {s : Nat} (hs : s < 1024) : edgesN n nb s ≤ 50 := by
  have := degsN_le (nb := nb) hn hs
  unfold edgesN
  omega
/-- the least degree within s (10 of the empty one) -/
def leastN (n : Nat) (nb : Nat → Nat) (s : Nat) : Nat := forN (fun k m => if s.testBit k = true ∧ pop (nb k &&& s) < m then pop (nb k &&& s) else m) n 10
theorem ev_leastDegree (hM : MI A F n nb) {s : Nat} (hs : s < 1024) : mv_Ev xs Ls 2 98 [.ref 28, .int (nI s)] (MW A B F sw) (some (.int (nI (leastN n nb s))), MW A B F sw, 0, 0) := by
  refine ev_of_wp rfl rfl rfl ?_
  have hn := hM.1
  refine wp_go (f' := (5, [.ref 28, .int (nI s), .int (nI 10), .int (nI 0), .retAddr 0], [], MW A B F sw, 0, 0)) 4 rfl ?_
  refine for_ind (P := fun (k m : Nat) => m ≤ 10 → ∀ d4 : Value, mv_Wp xs Ls 1 6 false (some .int) mv_c98 (5, [.ref 28, .int (nI s), .int (nI m), .int (nI k), d4], [], MW A B F sw, 0, 0) (some (.int (nI (leastN n nb s))), MW A B F sw, 0, 0)) (f := fun k m => if s.testBit k = true ∧ pop (nb k &&& s) < m then pop (nb k &&& s) else m) (n := n) ?_ n 10 (Nat.le_refl _) ?_ (Nat.le_refl _) _
  · intro k m hk ih hm d4
    refine wp_go (f' := (10, [.ref 28, .int (nI s), .int (nI m), .int (nI k), d4], [.int (F 6), .int (nI k)], MW A B F sw, 0, 0)) 3 rfl ?_
    rw [hM.2.1]
    refine wp_go (f' := ((if (nI n) ≤ (nI k) then 54 else 13), [.ref 28, .int (nI s), .int (nI m), .int (nI k), d4], [], MW A B F sw, 0, 0)) 1 rfl ?_
    refine wp_ite (fun h9 => absurd h9 (nI_ge hk (by omega))) (fun _ => ?_)
    refine wp_go (f' := (18, [.ref 28, .int (nI s), .int (nI m), .int (nI k), d4], [.int (nI k), .ref 29], MW A B F sw, 0, 0)) 3 rfl ?_
    refine wp_iald rfl rfl (by omega) (by decide) ?_
    rw [hM.2.2.1 k (by omega)]
    have hnb := hM.2.2.2 k (by omega)
    refine wp_go (f' := (21, [.ref 28, .int (nI s), .int (nI m), .int (nI k), d4], [.int ((nI (nb k)) &&& (nI s))], MW A B F sw, 0, 0)) 2 rfl ?_
    rw [bx_and]
    have hb1 : (nb k) &&& s < 1024 := by first | omega | exact or_lt (by omega) (by omega) | exact and_lt (by omega) | exact and_lt_r (by omega) | exact sd_lt (by omega) | exact pow_lt (by omega)
    refine wp_call rfl rfl rfl (ev_up (ev_onesN (s := (nb k) &&& s) (by omega) _) (by decide)) ?_
    refine wp_eq (f' := (24, [.ref 28, .int (nI s), .int (nI m), .int (nI k), d4], [.int (nI (pop ((nb k) &&& s)))], MW A B F sw, 0, 0)) rfl ?_
    have hpp := pop_le (s := (nb k) &&& s) (by omega)
    refine wp_go (f' := (31, [.ref 28, .int (nI s), .int (nI m), .int (nI k), .int (nI (pop ((nb k) &&& s)))], [.int (((nI s) >>> ((nI k) &&& 31)) &&& (nI 1))], MW A B F sw, 0, 0)) 6 rfl ?_
    rw [bx_bit (by omega) (by omega)]
    refine wp_go (f' := ((if ¬ (bI (s.testBit k)) = (nI 1) then 46 else 35), [.ref 28, .int (nI s), .int (nI m), .int (nI k), .int (nI (pop ((nb k) &&& s)))], [], MW A B F sw, 0, 0)) 2 rfl ?_
    refine wp_ite (fun h1 => ?_) (fun h1 => ?_)
    · have h1 := bI_n1 h1
      refine wp_go (f' := (51, [.ref 28, .int (nI s), .int (nI m), .int ((nI k) + 1), .int (nI (pop ((nb k) &&& s)))], [], MW A B F sw, 0, 0)) 3 rfl ?_
      rw [nI_1]
      refine wp_go (f' := (5, [.ref 28, .int (nI s), .int (nI m), .int (nI (k + 1)), .int (nI (pop ((nb k) &&& s)))], [], MW A B F sw, 0, 0)) 1 rfl ?_
      have e9 : (if s.testBit k = true ∧ pop (nb k &&& s) < m then pop (nb k &&& s) else m) = m := by simp [h1]; try omega
      have h8 := ih (by rw [e9]; omega) (.int (nI (pop ((nb k) &&& s))))
      rw [e9] at h8
      exact h8
    · have h1 := Classical.not_not.mp h1; have h1 := bI_1.mp h1
      refine wp_go (f' := ((if (nI m) ≤ (nI (pop ((nb k) &&& s))) then 46 else 41), [.ref 28, .int (nI s), .int (nI m), .int (nI k), .int (nI (pop ((nb k) &&& s)))], [], MW A B F sw, 0, 0)) 3 rfl ?_
      refine wp_ite (fun h2 => ?_) (fun h2 => ?_)
      · have h2 : m ≤ pop ((nb k) &&& s) := (nI_leI (a := m) (b := pop ((nb k) &&& s)) (by omega) (by omega)).mp h2
        refine wp_go (f' := (51, [.ref 28, .int (nI s), .int (nI m), .int ((nI k) + 1), .int (nI (pop ((nb k) &&& s)))], [], MW A B F sw, 0, 0)) 3 rfl ?_
        rw [nI_1]
        refine wp_go (f' := (5, [.ref 28, .int (nI s), .int (nI m), .int (nI (k + 1)), .int (nI (pop ((nb k) &&& s)))], [], MW A B F sw, 0, 0)) 1 rfl ?_
        have e9 : (if s.testBit k = true ∧ pop (nb k &&& s) < m then pop (nb k &&& s) else m) = m := by simp [h1, h2]; try omega
        have h8 := ih (by rw [e9]; omega) (.int (nI (pop ((nb k) &&& s))))
        rw [e9] at h8
        exact h8
      · have h2 : ¬ (m ≤ pop ((nb k) &&& s)) := fun h9 => h2 ((nI_leI (a := m) (b := pop ((nb k) &&& s)) (by omega) (by omega)).mpr h9)
        refine wp_go (f' := (51, [.ref 28, .int (nI s), .int (nI (pop ((nb k) &&& s))), .int ((nI k) + 1), .int (nI (pop ((nb k) &&& s)))], [], MW A B F sw, 0, 0)) 4 rfl ?_
        rw [nI_1]
        refine wp_go (f' := (5, [.ref 28, .int (nI s), .int (nI (pop ((nb k) &&& s))), .int (nI (k + 1)), .int (nI (pop ((nb k) &&& s)))], [], MW A B F sw, 0, 0)) 1 rfl ?_
        have e9 : (if s.testBit k = true ∧ pop (nb k &&& s) < m then pop (nb k &&& s) else m) = pop ((nb k) &&& s) := by simp [h1, h2]; try omega
        have h8 := ih (by rw [e9]; omega) (.int (nI (pop ((nb k) &&& s))))
        rw [e9] at h8
        exact h8
  · intro hm d4
    refine wp_go (f' := (10, [.ref 28, .int (nI s), .int (nI (leastN n nb s)), .int (nI n), d4], [.int (F 6), .int (nI n)], MW A B F sw, 0, 0)) 3 rfl ?_
    rw [hM.2.1]
    refine wp_go (f' := ((if (nI n) ≤ (nI n) then 54 else 13), [.ref 28, .int (nI s), .int (nI (leastN n nb s)), .int (nI n), d4], [], MW A B F sw, 0, 0)) 1 rfl ?_
    refine wp_ite (fun _ => ?_) (fun h9 => absurd (nI_le (Nat.le_refl _) (by omega)) h9)
    refine wp_go (f' := (55, [.ref 28, .int (nI s), .int (nI (leastN n nb s)), .int (nI n), d4], [.int (nI (leastN n nb s))], MW A B F sw, 0, 0)) 1 rfl ?_
    exact wp_iret rfl
end MM
