/-! the class's totals: those that only count -/
def apartC (n : Nat) (nb : Nat → Nat) : Int64 := forN (fun k (a : Int64) => a + (if inN nb k = 0 then 1 else 0)) (2 ^ n) 0
def nearC (n : Nat) (nb : Nat → Nat) : Int64 := forN (fun k (a : Int64) => a + (if k ||| rcN nb k = 2 ^ n - 1 then 1 else 0)) (2 ^ n) 0
def wholeC (n : Nat) (nb : Nat → Nat) : Int64 := forN (fun k (a : Int64) => a + (if pcN nb (k + 1) = k + 1 then 1 else 0)) (2 ^ n - 1) 0
def coverC (n : Nat) (nb : Nat → Nat) : Int64 := forN (fun k (a : Int64) => a + (if pop (sd (2 ^ n - 1) k) &&& 1 = 0 then 1 <<< ((nI (inN nb k)).toInt64 &&& 63) else - (1 <<< ((nI (inN nb k)).toInt64 &&& 63)))) (2 ^ n) 0
section CC
variable {xs : Nat → Int32} {Ls : Nat} {A : Nat → Nat → Int32} {B : Nat → Nat → Int64} {F : Nat → Int32} {sw : Bool} {n : Nat} {nb : Nat → Nat}
theorem ev_cApart (hC : CI A F n nb) (hR : RI A n nb) : mv_Ev xs Ls 2 58 [.ref 24] (MW A B F sw) (some (.long (apartC n nb)), MW A B F sw, 0, 0) := by
  refine ev_of_wp rfl rfl rfl ?_
  have hn := hC.1
  have hp := pow10 hn
  have hp1 : 1 ≤ 2 ^ n := Nat.one_le_two_pow
  have hal := all_lt hn
  refine wp_go (f' := (4, [.ref 24, .retAddr 0, .retAddr 0, .retAddr 0, .retAddr 0], [.ref 1], MW A B F sw, 0, 0)) 2 rfl ?_
  refine wp_call rfl rfl rfl (ev_up (ev_gAll hC) (by decide)) ?_
  refine wp_eq (f' := (7, [.ref 24, .retAddr 0, .retAddr 0, .retAddr 0, .retAddr 0], [.int (nI (2 ^ n - 1))], MW A B F sw, 0, 0)) rfl ?_
  refine wp_go (f' := (13, [.ref 24, .int (nI (2 ^ n - 1)), .long 0, .retAddr 0, .int (nI 0)], [], MW A B F sw, 0, 0)) 5 rfl ?_
  refine for_ind (P := fun (k : Nat) (a : Int64) => mv_Wp xs Ls 1 0 false (some .long) mv_c58 (13, [.ref 24, .int (nI (2 ^ n - 1)), .long a, .retAddr 0, .int (nI k)], [], MW A B F sw, 0, 0) (some (.long (apartC n nb)), MW A B F sw, 0, 0)) (f := fun k (a : Int64) => a + (if inN nb k = 0 then 1 else 0)) (n := 2 ^ n) ?_ (2 ^ n) 0 (Nat.le_refl _) ?_
  · intro k a hk ih
    have hil := in_le (nb := nb) k (by omega)
    refine wp_go (f' := ((if (nI (2 ^ n - 1)) < (nI k) then 46 else 19), [.ref 24, .int (nI (2 ^ n - 1)), .long a, .retAddr 0, .int (nI k)], [], MW A B F sw, 0, 0)) 3 rfl ?_
    refine wp_ite (fun h9 => absurd h9 (nI_nlt (by omega) (by omega))) (fun _ => ?_)
    refine wp_go (f' := (29, [.ref 24, .int (nI (2 ^ n - 1)), .long a, .retAddr 0, .int (nI k)], [.int (nI k), .ref 5, .long a], MW A B F sw, 0, 0)) 5 rfl ?_
    refine wp_iald rfl rfl (by omega) (by decide) ?_
    rw [(hR k (by omega)).2.1]
    refine wp_go (f' := ((if ¬ (nI (inN nb k)) = 0 then 37 else 33), [.ref 24, .int (nI (2 ^ n - 1)), .long a, .retAddr 0, .int (nI k)], [.long a], MW A B F sw, 0, 0)) 1 rfl ?_
    refine wp_ite (fun h1 => ?_) (fun h1 => ?_)
    · have h1 : ¬ (inN nb k = 0) := fun h9 => h1 ((nI_eq (a := inN nb k) (b := 0) (by omega) (by omega)).mpr h9)
      refine wp_go (f' := (43, [.ref 24, .int (nI (2 ^ n - 1)), .long (a + 0), .retAddr 0, .int ((nI k) + 1)], [], MW A B F sw, 0, 0)) 4 rfl ?_
      rw [nI_1]
      refine wp_go (f' := (13, [.ref 24, .int (nI (2 ^ n - 1)), .long (a + 0), .retAddr 0, .int (nI (k + 1))], [], MW A B F sw, 0, 0)) 1 rfl ?_
      refine wp_eq ?_ ih
      simp [h1]
    · have h1 := Classical.not_not.mp h1; have h1 : inN nb k = 0 := (nI_eq (a := inN nb k) (b := 0) (by omega) (by omega)).mp h1
      refine wp_go (f' := (43, [.ref 24, .int (nI (2 ^ n - 1)), .long (a + 1), .retAddr 0, .int ((nI k) + 1)], [], MW A B F sw, 0, 0)) 5 rfl ?_
      rw [nI_1]
      refine wp_go (f' := (13, [.ref 24, .int (nI (2 ^ n - 1)), .long (a + 1), .retAddr 0, .int (nI (k + 1))], [], MW A B F sw, 0, 0)) 1 rfl ?_
      refine wp_eq ?_ ih
      simp [h1]
  · skip
    refine wp_go (f' := ((if (nI (2 ^ n - 1)) < (nI (2 ^ n)) then 46 else 19), [.ref 24, .int (nI (2 ^ n - 1)), .long (apartC n nb), .retAddr 0, .int (nI (2 ^ n))], [], MW A B F sw, 0, 0)) 3 rfl ?_
    refine wp_ite (fun _ => ?_) (fun h9 => absurd (nI_lt (by omega) (by omega)) h9)
    refine wp_go (f' := (47, [.ref 24, .int (nI (2 ^ n - 1)), .long (apartC n nb), .retAddr 0, .int (nI (2 ^ n))], [.long (apartC n nb)], MW A B F sw, 0, 0)) 1 rfl ?_
    exact wp_lret rfl
theorem ev_cNear (hC : CI A F n nb) (hR : RI A n nb) : mv_Ev xs Ls 2 64 [.ref 24] (MW A B F sw) (some (.long (nearC n nb)), MW A B F sw, 0, 0) := by
  refine ev_of_wp rfl rfl rfl ?_
  have hn := hC.1
  have hp := pow10 hn
  have hp1 : 1 ≤ 2 ^ n := Nat.one_le_two_pow
  have hal := all_lt hn
  refine wp_go (f' := (4, [.ref 24, .retAddr 0, .retAddr 0, .retAddr 0, .retAddr 0], [.ref 1], MW A B F sw, 0, 0)) 2 rfl ?_
  refine wp_call rfl rfl rfl (ev_up (ev_gAll hC) (by decide)) ?_
  refine wp_eq (f' := (7, [.ref 24, .retAddr 0, .retAddr 0, .retAddr 0, .retAddr 0], [.int (nI (2 ^ n - 1))], MW A B F sw, 0, 0)) rfl ?_
  refine wp_go (f' := (13, [.ref 24, .int (nI (2 ^ n - 1)), .long 0, .retAddr 0, .int (nI 0)], [], MW A B F sw, 0, 0)) 5 rfl ?_
  refine for_ind (P := fun (k : Nat) (a : Int64) => mv_Wp xs Ls 1 0 false (some .long) mv_c64 (13, [.ref 24, .int (nI (2 ^ n - 1)), .long a, .retAddr 0, .int (nI k)], [], MW A B F sw, 0, 0) (some (.long (nearC n nb)), MW A B F sw, 0, 0)) (f := fun k (a : Int64) => a + (if k ||| rcN nb k = 2 ^ n - 1 then 1 else 0)) (n := 2 ^ n) ?_ (2 ^ n) 0 (Nat.le_refl _) ?_
  · intro k a hk ih
    have hkl : k ||| rcN nb k < 1024 := or_lt (by omega) (rc_lt hC.2.2.2 k (by omega))
    refine wp_go (f' := ((if (nI (2 ^ n - 1)) < (nI k) then 50 else 19), [.ref 24, .int (nI (2 ^ n - 1)), .long a, .retAddr 0, .int (nI k)], [], MW A B F sw, 0, 0)) 3 rfl ?_
    refine wp_ite (fun h9 => absurd h9 (nI_nlt (by omega) (by omega))) (fun _ => ?_)
    refine wp_go (f' := (31, [.ref 24, .int (nI (2 ^ n - 1)), .long a, .retAddr 0, .int (nI k)], [.int (nI k), .ref 4, .int (nI k), .long a], MW A B F sw, 0, 0)) 6 rfl ?_
    refine wp_iald rfl rfl (by omega) (by decide) ?_
    rw [(hR k (by omega)).1]
    have hrcl := rc_lt hC.2.2.2 k (by omega)
    refine wp_go (f' := (33, [.ref 24, .int (nI (2 ^ n - 1)), .long a, .retAddr 0, .int (nI k)], [.int ((nI k) ||| (nI (rcN nb k))), .long a], MW A B F sw, 0, 0)) 1 rfl ?_
    rw [bx_or]
    refine wp_go (f' := ((if ¬ (nI (k ||| (rcN nb k))) = (nI (2 ^ n - 1)) then 41 else 37), [.ref 24, .int (nI (2 ^ n - 1)), .long a, .retAddr 0, .int (nI k)], [.long a], MW A B F sw, 0, 0)) 2 rfl ?_
    refine wp_ite (fun h1 => ?_) (fun h1 => ?_)
    · have h1 : ¬ (k ||| (rcN nb k) = 2 ^ n - 1) := fun h9 => h1 ((nI_eq (a := k ||| (rcN nb k)) (b := 2 ^ n - 1) (by omega) (by omega)).mpr h9)
      refine wp_go (f' := (47, [.ref 24, .int (nI (2 ^ n - 1)), .long (a + 0), .retAddr 0, .int ((nI k) + 1)], [], MW A B F sw, 0, 0)) 4 rfl ?_
      rw [nI_1]
      refine wp_go (f' := (13, [.ref 24, .int (nI (2 ^ n - 1)), .long (a + 0), .retAddr 0, .int (nI (k + 1))], [], MW A B F sw, 0, 0)) 1 rfl ?_
      refine wp_eq ?_ ih
      simp [h1]
    · have h1 := Classical.not_not.mp h1; have h1 : k ||| (rcN nb k) = 2 ^ n - 1 := (nI_eq (a := k ||| (rcN nb k)) (b := 2 ^ n - 1) (by omega) (by omega)).mp h1
      refine wp_go (f' := (47, [.ref 24, .int (nI (2 ^ n - 1)), .long (a + 1), .retAddr 0, .int ((nI k) + 1)], [], MW A B F sw, 0, 0)) 5 rfl ?_
      rw [nI_1]
      refine wp_go (f' := (13, [.ref 24, .int (nI (2 ^ n - 1)), .long (a + 1), .retAddr 0, .int (nI (k + 1))], [], MW A B F sw, 0, 0)) 1 rfl ?_
      refine wp_eq ?_ ih
      simp [h1]
  · skip
    refine wp_go (f' := ((if (nI (2 ^ n - 1)) < (nI (2 ^ n)) then 50 else 19), [.ref 24, .int (nI (2 ^ n - 1)), .long (nearC n nb), .retAddr 0, .int (nI (2 ^ n))], [], MW A B F sw, 0, 0)) 3 rfl ?_
    refine wp_ite (fun _ => ?_) (fun h9 => absurd (nI_lt (by omega) (by omega)) h9)
    refine wp_go (f' := (51, [.ref 24, .int (nI (2 ^ n - 1)), .long (nearC n nb), .retAddr 0, .int (nI (2 ^ n))], [.long (nearC n nb)], MW A B F sw, 0, 0)) 1 rfl ?_
    exact wp_lret rfl
theorem ev_cWhole (hC : CI A F n nb) (hR : RI A n nb) : mv_Ev xs Ls 2 74 [.ref 24] (MW A B F sw) (some (.long (wholeC n nb)), MW A B F sw, 0, 0) := by
  refine ev_of_wp rfl rfl rfl ?_
  have hn := hC.1
  have hp := pow10 hn
  have hp1 : 1 ≤ 2 ^ n := Nat.one_le_two_pow
  have hal := all_lt hn
  refine wp_go (f' := (4, [.ref 24, .retAddr 0, .retAddr 0, .retAddr 0, .retAddr 0], [.ref 1], MW A B F sw, 0, 0)) 2 rfl ?_
  refine wp_call rfl rfl rfl (ev_up (ev_gAll hC) (by decide)) ?_
  refine wp_eq (f' := (7, [.ref 24, .retAddr 0, .retAddr 0, .retAddr 0, .retAddr 0], [.int (nI (2 ^ n - 1))], MW A B F sw, 0, 0)) rfl ?_
  refine wp_go (f' := (13, [.ref 24, .int (nI (2 ^ n - 1)), .long 0, .retAddr 0, .int (nI 1)], [], MW A B F sw, 0, 0)) 5 rfl ?_
  refine for_ind (P := fun (k : Nat) (a : Int64) => mv_Wp xs Ls 1 0 false (some .long) mv_c74 (13, [.ref 24, .int (nI (2 ^ n - 1)), .long a, .retAddr 0, .int (nI (k + 1))], [], MW A B F sw, 0, 0) (some (.long (wholeC n nb)), MW A B F sw, 0, 0)) (f := fun k (a : Int64) => a + (if pcN nb (k + 1) = k + 1 then 1 else 0)) (n := 2 ^ n - 1) ?_ (2 ^ n - 1) 0 (Nat.le_refl _) ?_
  · intro k a hk ih
    refine wp_go (f' := ((if (nI (2 ^ n - 1)) < (nI (k + 1)) then 45 else 19), [.ref 24, .int (nI (2 ^ n - 1)), .long a, .retAddr 0, .int (nI (k + 1))], [], MW A B F sw, 0, 0)) 3 rfl ?_
    refine wp_ite (fun h9 => absurd h9 (nI_nlt (by omega) (by omega))) (fun _ => ?_)
    refine wp_go (f' := (26, [.ref 24, .int (nI (2 ^ n - 1)), .long a, .retAddr 0, .int (nI (k + 1))], [.int (nI (k + 1)), .ref 1, .long a], MW A B F sw, 0, 0)) 4 rfl ?_
    refine wp_call rfl rfl rfl (ev_up (ev_gHangs hC hR (s := k + 1) (by omega)) (by decide)) ?_
    refine wp_eq (f' := (29, [.ref 24, .int (nI (2 ^ n - 1)), .long a, .retAddr 0, .int (nI (k + 1))], [.int (bI (decide (pcN nb (k + 1) = k + 1))), .long a], MW A B F sw, 0, 0)) rfl ?_
    refine wp_go (f' := ((if (bI (decide (pcN nb (k + 1) = k + 1))) = 0 then 36 else 32), [.ref 24, .int (nI (2 ^ n - 1)), .long a, .retAddr 0, .int (nI (k + 1))], [.long a], MW A B F sw, 0, 0)) 1 rfl ?_
    refine wp_ite (fun h1 => ?_) (fun h1 => ?_)
    · have h1 := bI_0.mp h1
      refine wp_go (f' := (42, [.ref 24, .int (nI (2 ^ n - 1)), .long (a + 0), .retAddr 0, .int ((nI (k + 1)) + 1)], [], MW A B F sw, 0, 0)) 4 rfl ?_
      rw [nI_1]
      refine wp_go (f' := (13, [.ref 24, .int (nI (2 ^ n - 1)), .long (a + 0), .retAddr 0, .int (nI ((k + 1) + 1))], [], MW A B F sw, 0, 0)) 1 rfl ?_
      have h9 := of_decide_eq_false h1
      refine wp_eq ?_ ih
      simp [h9]
    · have h1 := bI_n0 h1
      refine wp_go (f' := (42, [.ref 24, .int (nI (2 ^ n - 1)), .long (a + 1), .retAddr 0, .int ((nI (k + 1)) + 1)], [], MW A B F sw, 0, 0)) 5 rfl ?_
      rw [nI_1]
      refine wp_go (f' := (13, [.ref 24, .int (nI (2 ^ n - 1)), .long (a + 1), .retAddr 0, .int (nI ((k + 1) + 1))], [], MW A B F sw, 0, 0)) 1 rfl ?_
      have h9 := of_decide_eq_true h1
      refine wp_eq ?_ ih
      simp [h9]
  · skip
    refine wp_go (f' := ((if (nI (2 ^ n - 1)) < (nI (2 ^ n - 1 + 1)) then 45 else 19), [.ref 24, .int (nI (2 ^ n - 1)), .long (wholeC n nb), .retAddr 0, .int (nI (2 ^ n - 1 + 1))], [], MW A B F sw, 0, 0)) 3 rfl ?_
    refine wp_ite (fun _ => ?_) (fun h9 => absurd (nI_lt (by omega) (by omega)) h9)
    refine wp_go (f' := (46, [.ref 24, .int (nI (2 ^ n - 1)), .long (wholeC n nb), .retAddr 0, .int (nI (2 ^ n - 1 + 1))], [.long (wholeC n nb)], MW A B F sw, 0, 0)) 1 rfl ?_
    exact wp_lret rfl
theorem ev_cCovers (hC : CI A F n nb) (hR : RI A n nb) : mv_Ev xs Ls 2 73 [.ref 24] (MW A B F sw) (some (.long (coverC n nb)), MW A B F sw, 0, 0) := by
  refine ev_of_wp rfl rfl rfl ?_
  have hn := hC.1
  have hp := pow10 hn
  have hp1 : 1 ≤ 2 ^ n := Nat.one_le_two_pow
  have hal := all_lt hn
  refine wp_go (f' := (4, [.ref 24, .retAddr 0, .retAddr 0, .retAddr 0, .retAddr 0, .retAddr 0, .retAddr 0], [.ref 1], MW A B F sw, 0, 0)) 2 rfl ?_
  refine wp_call rfl rfl rfl (ev_up (ev_gAll hC) (by decide)) ?_
  refine wp_eq (f' := (7, [.ref 24, .retAddr 0, .retAddr 0, .retAddr 0, .retAddr 0, .retAddr 0, .retAddr 0], [.int (nI (2 ^ n - 1))], MW A B F sw, 0, 0)) rfl ?_
  refine wp_go (f' := (13, [.ref 24, .int (nI (2 ^ n - 1)), .long 0, .retAddr 0, .int (nI 0), .retAddr 0, .retAddr 0], [], MW A B F sw, 0, 0)) 5 rfl ?_
  refine for_ind (P := fun (k : Nat) (a : Int64) => ∀ e5 : Value, ∀ e6 : Value, mv_Wp xs Ls 1 0 false (some .long) mv_c73 (13, [.ref 24, .int (nI (2 ^ n - 1)), .long a, .retAddr 0, .int (nI k), e5, e6], [], MW A B F sw, 0, 0) (some (.long (coverC n nb)), MW A B F sw, 0, 0)) (f := fun k (a : Int64) => a + (if pop (sd (2 ^ n - 1) k) &&& 1 = 0 then 1 <<< ((nI (inN nb k)).toInt64 &&& 63) else - (1 <<< ((nI (inN nb k)).toInt64 &&& 63)))) (n := 2 ^ n) ?_ (2 ^ n) 0 (Nat.le_refl _) ?_ _ _
  · intro k a hk ih e5 e6
    have hil := in_le (nb := nb) k (by omega)
    have hsl : sd (2 ^ n - 1) k < 1024 := sd_lt hal
    have hpa : pop (sd (2 ^ n - 1) k) &&& 1 ≤ pop (sd (2 ^ n - 1) k) := Nat.and_le_left
    refine wp_go (f' := ((if (nI (2 ^ n - 1)) < (nI k) then 64 else 19), [.ref 24, .int (nI (2 ^ n - 1)), .long a, .retAddr 0, .int (nI k), e5, e6], [], MW A B F sw, 0, 0)) 3 rfl ?_
    refine wp_ite (fun h9 => absurd h9 (nI_nlt (by omega) (by omega))) (fun _ => ?_)
    refine wp_go (f' := (29, [.ref 24, .int (nI (2 ^ n - 1)), .long a, .retAddr 0, .int (nI k), e5, e6], [.int (nI k), .ref 5, .long 1], MW A B F sw, 0, 0)) 5 rfl ?_
    refine wp_iald rfl rfl (by omega) (by decide) ?_
    rw [(hR k (by omega)).2.1]
    refine wp_go (f' := (40, [.ref 24, .int (nI (2 ^ n - 1)), .long a, .retAddr 0, .int (nI k), .long (1 <<< ((nI (inN nb k)).toInt64 &&& 63)), .retAddr 0], [.int ((nI (2 ^ n - 1)) &&& ((nI k) ^^^ (-1))), .long a], MW A B F sw, 0, 0)) 8 rfl ?_
    rw [bx_sd (by omega)]
    refine wp_call rfl rfl rfl (ev_up (ev_bitCount (s := sd (2 ^ n - 1) k) (by omega) _) (by decide)) ?_
    refine wp_eq (f' := (43, [.ref 24, .int (nI (2 ^ n - 1)), .long a, .retAddr 0, .int (nI k), .long (1 <<< ((nI (inN nb k)).toInt64 &&& 63)), .retAddr 0], [.int (nI (pop (sd (2 ^ n - 1) k))), .long a], MW A B F sw, 0, 0)) rfl ?_
    have hpp := pop_le (s := sd (2 ^ n - 1) k) (by omega)
    refine wp_go (f' := (45, [.ref 24, .int (nI (2 ^ n - 1)), .long a, .retAddr 0, .int (nI k), .long (1 <<< ((nI (inN nb k)).toInt64 &&& 63)), .retAddr 0], [.int ((nI (pop (sd (2 ^ n - 1) k))) &&& (nI 1)), .long a], MW A B F sw, 0, 0)) 2 rfl ?_
    rw [bx_and]
    refine wp_go (f' := ((if ¬ (nI ((pop (sd (2 ^ n - 1) k)) &&& 1)) = 0 then 53 else 48), [.ref 24, .int (nI (2 ^ n - 1)), .long a, .retAddr 0, .int (nI k), .long (1 <<< ((nI (inN nb k)).toInt64 &&& 63)), .retAddr 0], [.long a], MW A B F sw, 0, 0)) 1 rfl ?_
    refine wp_ite (fun h1 => ?_) (fun h1 => ?_)
    · have h1 : ¬ ((pop (sd (2 ^ n - 1) k)) &&& 1 = 0) := fun h9 => h1 ((nI_eq (a := (pop (sd (2 ^ n - 1) k)) &&& 1) (b := 0) (by omega) (by omega)).mpr h9)
      refine wp_go (f' := (61, [.ref 24, .int (nI (2 ^ n - 1)), .long (a + (-(1 <<< ((nI (inN nb k)).toInt64 &&& 63)))), .retAddr 0, .int ((nI k) + 1), .long (1 <<< ((nI (inN nb k)).toInt64 &&& 63)), .retAddr 0], [], MW A B F sw, 0, 0)) 5 rfl ?_
      rw [nI_1]
      refine wp_go (f' := (13, [.ref 24, .int (nI (2 ^ n - 1)), .long (a + (-(1 <<< ((nI (inN nb k)).toInt64 &&& 63)))), .retAddr 0, .int (nI (k + 1)), .long (1 <<< ((nI (inN nb k)).toInt64 &&& 63)), .retAddr 0], [], MW A B F sw, 0, 0)) 1 rfl ?_
      have e9 := ih (.long (1 <<< ((nI (inN nb k)).toInt64 &&& 63))) (.retAddr 0)
      rw [if_neg h1] at e9
      exact e9
    · have h1 := Classical.not_not.mp h1; have h1 : (pop (sd (2 ^ n - 1) k)) &&& 1 = 0 := (nI_eq (a := (pop (sd (2 ^ n - 1) k)) &&& 1) (b := 0) (by omega) (by omega)).mp h1
      refine wp_go (f' := (61, [.ref 24, .int (nI (2 ^ n - 1)), .long (a + (1 <<< ((nI (inN nb k)).toInt64 &&& 63))), .retAddr 0, .int ((nI k) + 1), .long (1 <<< ((nI (inN nb k)).toInt64 &&& 63)), .retAddr 0], [], MW A B F sw, 0, 0)) 5 rfl ?_
      rw [nI_1]
      refine wp_go (f' := (13, [.ref 24, .int (nI (2 ^ n - 1)), .long (a + (1 <<< ((nI (inN nb k)).toInt64 &&& 63))), .retAddr 0, .int (nI (k + 1)), .long (1 <<< ((nI (inN nb k)).toInt64 &&& 63)), .retAddr 0], [], MW A B F sw, 0, 0)) 1 rfl ?_
      have e9 := ih (.long (1 <<< ((nI (inN nb k)).toInt64 &&& 63))) (.retAddr 0)
      rw [if_pos h1] at e9
      exact e9
  · intro e5 e6
    refine wp_go (f' := ((if (nI (2 ^ n - 1)) < (nI (2 ^ n)) then 64 else 19), [.ref 24, .int (nI (2 ^ n - 1)), .long (coverC n nb), .retAddr 0, .int (nI (2 ^ n)), e5, e6], [], MW A B F sw, 0, 0)) 3 rfl ?_
    refine wp_ite (fun _ => ?_) (fun h9 => absurd (nI_lt (by omega) (by omega)) h9)
    refine wp_go (f' := (65, [.ref 24, .int (nI (2 ^ n - 1)), .long (coverC n nb), .retAddr 0, .int (nI (2 ^ n)), e5, e6], [.long (coverC n nb)], MW A B F sw, 0, 0)) 1 rfl ?_
    exact wp_lret rfl
theorem ev_gPieces2 (hC : CI A F n nb) (hR : RI A n nb) (h3 : F 3 = F 2) : mv_Ev xs Ls 4 16 [.ref 1] (MW A B F sw) (some (.int (nI (cprN n nb))), MW A B F sw, 0, 0) := by
  refine ev_of_wp rfl rfl rfl ?_
  refine wp_go (f' := (1, [.ref 1, .retAddr 0, .retAddr 0], [.ref 1], MW A B F sw, 0, 0)) 1 rfl ?_
  refine wp_call rfl rfl rfl (ev_up (ev_rows0 h3) (by decide)) ?_
  exact lq_gPieces hC hR
theorem ev_cEven (hC : CI A F n nb) (hR : RI A n nb) {ed : Nat} (hE : F 1 = nI ed) (h3 : F 3 = F 2) : mv_Ev xs Ls 5 75 [.ref 24] (MW A B F sw) (some (.long (1 <<< (((nI ed - nI n) + nI (cprN n nb)).toInt64 &&& 63))), MW A B F sw, 0, 0) := by
  refine ev_of_wp rfl rfl rfl ?_
  have hn := hC.1
  have hp := pow10 hn
  have hp1 : 1 ≤ 2 ^ n := Nat.one_le_two_pow
  have hal := all_lt hn
  refine wp_go (f' := (8, [.ref 24], [.int (F 1), .long 1], MW A B F sw, 0, 0)) 4 rfl ?_
  rw [hE]
  refine wp_go (f' := (15, [.ref 24], [.int (F 0), .int (nI ed), .long 1], MW A B F sw, 0, 0)) 3 rfl ?_
  rw [hC.2.1]
  refine wp_go (f' := (20, [.ref 24], [.ref 1, .int ((nI ed) - (nI n)), .long 1], MW A B F sw, 0, 0)) 3 rfl ?_
  refine wp_call rfl rfl rfl (ev_up (ev_gPieces2 hC hR h3) (by decide)) ?_
  refine wp_eq (f' := (23, [.ref 24], [.int (nI (cprN n nb)), .int ((nI ed) - (nI n)), .long 1], MW A B F sw, 0, 0)) rfl ?_
  refine wp_go (f' := (25, [.ref 24], [.long (1 <<< ((((nI ed) - (nI n)) + (nI (cprN n nb))).toInt64 &&& 63))], MW A B F sw, 0, 0)) 2 rfl ?_
  exact wp_lret rfl
end CC
