section MM
variable {xs : Nat → Int32} {Ls : Nat} {A : Nat → Nat → Int32} {B : Nat → Nat → Int64} {F : Nat → Int32} {sw : Bool} {n : Nat} {nb : Nat → Nat}
def apartT (n : Nat) (nb : Nat → Nat) : Int64 := forN (fun k (a : Int64) => a + (if apartN n nb k then 1 else 0)) (2 ^ n) 0
theorem ev_total0 (hM : MI A F n nb) (y : Int32) : mv_Ev xs Ls 4 120 [.ref 28, .int (nI 0), .int y] (MW A B F sw) (some (.long (apartT n nb)), MW A B F sw, 0, 0) := by
  refine ev_of_wp rfl rfl rfl ?_
  have hn := hM.1
  have hp := pow10 hn
  have hp1 : 1 ≤ 2 ^ n := Nat.one_le_two_pow
  have hal := all_lt hn
  refine wp_go (f' := (4, [.ref 28, .int (nI 0), .int y, .retAddr 0, .retAddr 0, .retAddr 0], [.int (nI 13), .int (nI 0), .int (nI 0)], MW A B F sw, 0, 0)) 3 rfl ?_
  refine wp_call rfl rfl rfl (ev_up (ev_isIn (nI 0) (nI 0) (nI 13) _) (by decide)) ?_
  refine wp_eq (f' := (7, [.ref 28, .int (nI 0), .int y, .retAddr 0, .retAddr 0, .retAddr 0], [.int (bI (decide ((nI 0) ≤ (nI 0)) && decide ((nI 0) ≤ (nI 13))))], MW A B F sw, 0, 0)) rfl ?_
  refine wp_go (f' := ((if (bI (decide ((nI 0) ≤ (nI 0)) && decide ((nI 0) ≤ (nI 13)))) = 0 then 25 else 10), [.ref 28, .int (nI 0), .int y, .retAddr 0, .retAddr 0, .retAddr 0], [], MW A B F sw, 0, 0)) 1 rfl ?_
  refine wp_ite (fun h9 => absurd h9 (by decide : ¬ bI (decide ((nI 0) ≤ (nI 0)) && decide ((nI 0) ≤ (nI 13))) = 0)) (fun _ => ?_)
  refine wp_go (f' := ((if ¬ (nI 0) = (nI 1) then 29 else 15), [.ref 28, .int (nI 0), .int y, .retAddr 0, .retAddr 0, .retAddr 0], [], MW A B F sw, 0, 0)) 3 rfl ?_
  refine wp_ite (fun _ => ?_) (fun h9 => absurd (by decide : ¬ nI 0 = nI 1) h9)
  refine wp_go (f' := (255, [.ref 28, .int (nI 0), .int y, .long 0, .retAddr 0, .int (nI 0)], [], MW A B F sw, 0, 0)) 6 rfl ?_
  refine for_ind (P := fun (k : Nat) (a : Int64) => mv_Wp xs Ls 3 6 false (some .long) mv_c120 (255, [.ref 28, .int (nI 0), .int y, .long a, .retAddr 0, .int (nI k)], [], MW A B F sw, 0, 0) (some (.long (apartT n nb)), MW A B F sw, 0, 0)) (f := fun k (a : Int64) => a + (if apartN n nb k then 1 else 0)) (n := (2 ^ n)) ?_ (2 ^ n) 0 (Nat.le_refl _) ?_  
  · intro k a hk ih  
    refine wp_go (f' := (258, [.ref 28, .int (nI 0), .int y, .long a, .retAddr 0, .int (nI k)], [.ref 28, .int (nI k)], MW A B F sw, 0, 0)) 2 rfl ?_
    refine wp_call rfl rfl rfl (ev_up (ev_all hM) (by decide)) ?_
    refine wp_eq (f' := (261, [.ref 28, .int (nI 0), .int y, .long a, .retAddr 0, .int (nI k)], [.int (nI (2 ^ n - 1)), .int (nI k)], MW A B F sw, 0, 0)) rfl ?_
    refine wp_go (f' := ((if (nI (2 ^ n - 1)) < (nI k) then 384 else 264), [.ref 28, .int (nI 0), .int y, .long a, .retAddr 0, .int (nI k)], [], MW A B F sw, 0, 0)) 1 rfl ?_
    refine wp_ite (fun h9 => absurd h9 (nI_nlt (by omega) (by omega))) (fun _ => ?_)
    refine wp_go (f' := ((if ¬ (nI 0) = 0 then 288 else 268), [.ref 28, .int (nI 0), .int y, .long a, .retAddr 0, .int (nI k)], [], MW A B F sw, 0, 0)) 2 rfl ?_
    refine wp_ite (fun h9 => absurd h9 (fun h8 => h8 rfl : ¬ ¬ nI 0 = 0)) (fun _ => ?_)
    refine wp_go (f' := (272, [.ref 28, .int (nI 0), .int y, .long a, .retAddr 0, .int (nI k)], [.int (nI k), .ref 28, .long a], MW A B F sw, 0, 0)) 3 rfl ?_
    refine wp_call rfl rfl rfl (ev_up (ev_isApart hM (s := k) (by omega)) (by decide)) ?_
    refine wp_eq (f' := (275, [.ref 28, .int (nI 0), .int y, .long a, .retAddr 0, .int (nI k)], [.int (bI (apartN n nb k)), .long a], MW A B F sw, 0, 0)) rfl ?_
    refine wp_go (f' := ((if (bI (apartN n nb k)) = 0 then 282 else 278), [.ref 28, .int (nI 0), .int y, .long a, .retAddr 0, .int (nI k)], [.long a], MW A B F sw, 0, 0)) 1 rfl ?_
    refine wp_ite (fun h1 => ?_) (fun h1 => ?_)
    · have h1 := bI_0.mp h1
      refine wp_go (f' := (381, [.ref 28, .int (nI 0), .int y, .long (a + 0), .retAddr 0, .int ((nI k) + 1)], [], MW A B F sw, 0, 0)) 5 rfl ?_
      rw [nI_1]
      refine wp_go (f' := (255, [.ref 28, .int (nI 0), .int y, .long (a + 0), .retAddr 0, .int (nI (k + 1))], [], MW A B F sw, 0, 0)) 1 rfl ?_
      refine wp_eq ?_ ih
      first | (simp [h1]; done) | simp only [h1, if_true, if_false, reduceIte, Bool.false_eq_true]
    · have h1 := bI_n0 h1
      refine wp_go (f' := (381, [.ref 28, .int (nI 0), .int y, .long (a + 1), .retAddr 0, .int ((nI k) + 1)], [], MW A B F sw, 0, 0)) 6 rfl ?_
      rw [nI_1]
      refine wp_go (f' := (255, [.ref 28, .int (nI 0), .int y, .long (a + 1), .retAddr 0, .int (nI (k + 1))], [], MW A B F sw, 0, 0)) 1 rfl ?_
      refine wp_eq ?_ ih
      first | (simp [h1]; done) | simp only [h1, if_true, if_false, reduceIte, Bool.false_eq_true]
  · skip
    refine wp_go (f' := (258, [.ref 28, .int (nI 0), .int y, .long (apartT n nb), .retAddr 0, .int (nI (2 ^ n))], [.ref 28, .int (nI (2 ^ n))], MW A B F sw, 0, 0)) 2 rfl ?_
    refine wp_call rfl rfl rfl (ev_up (ev_all hM) (by decide)) ?_
    refine wp_eq (f' := (261, [.ref 28, .int (nI 0), .int y, .long (apartT n nb), .retAddr 0, .int (nI (2 ^ n))], [.int (nI (2 ^ n - 1)), .int (nI (2 ^ n))], MW A B F sw, 0, 0)) rfl ?_
    refine wp_go (f' := ((if (nI (2 ^ n - 1)) < (nI (2 ^ n)) then 384 else 264), [.ref 28, .int (nI 0), .int y, .long (apartT n nb), .retAddr 0, .int (nI (2 ^ n))], [], MW A B F sw, 0, 0)) 1 rfl ?_
    refine wp_ite (fun _ => ?_) (fun h9 => absurd (nI_lt (by omega) (by omega)) h9)
    refine wp_go (f' := (385, [.ref 28, .int (nI 0), .int y, .long (apartT n nb), .retAddr 0, .int (nI (2 ^ n))], [.long (apartT n nb)], MW A B F sw, 0, 0)) 1 rfl ?_
    exact wp_lret rfl
def nearT (n : Nat) (nb : Nat → Nat) : Int64 := forN (fun k (a : Int64) => a + (if nearAllN n nb k then 1 else 0)) (2 ^ n) 0
theorem ev_total4 (hM : MI A F n nb) (y : Int32) : mv_Ev xs Ls 4 120 [.ref 28, .int (nI 4), .int y] (MW A B F sw) (some (.long (nearT n nb)), MW A B F sw, 0, 0) := by
  refine ev_of_wp rfl rfl rfl ?_
  have hn := hM.1
  have hp := pow10 hn
  have hp1 : 1 ≤ 2 ^ n := Nat.one_le_two_pow
  have hal := all_lt hn
  refine wp_go (f' := (4, [.ref 28, .int (nI 4), .int y, .retAddr 0, .retAddr 0, .retAddr 0], [.int (nI 13), .int (nI 0), .int (nI 4)], MW A B F sw, 0, 0)) 3 rfl ?_
  refine wp_call rfl rfl rfl (ev_up (ev_isIn (nI 4) (nI 0) (nI 13) _) (by decide)) ?_
  refine wp_eq (f' := (7, [.ref 28, .int (nI 4), .int y, .retAddr 0, .retAddr 0, .retAddr 0], [.int (bI (decide ((nI 0) ≤ (nI 4)) && decide ((nI 4) ≤ (nI 13))))], MW A B F sw, 0, 0)) rfl ?_
  refine wp_go (f' := ((if (bI (decide ((nI 0) ≤ (nI 4)) && decide ((nI 4) ≤ (nI 13)))) = 0 then 25 else 10), [.ref 28, .int (nI 4), .int y, .retAddr 0, .retAddr 0, .retAddr 0], [], MW A B F sw, 0, 0)) 1 rfl ?_
  refine wp_ite (fun h9 => absurd h9 (by decide : ¬ bI (decide ((nI 0) ≤ (nI 4)) && decide ((nI 4) ≤ (nI 13))) = 0)) (fun _ => ?_)
  refine wp_go (f' := ((if ¬ (nI 4) = (nI 1) then 29 else 15), [.ref 28, .int (nI 4), .int y, .retAddr 0, .retAddr 0, .retAddr 0], [], MW A B F sw, 0, 0)) 3 rfl ?_
  refine wp_ite (fun _ => ?_) (fun h9 => absurd (by decide : ¬ nI 4 = nI 1) h9)
  refine wp_go (f' := (255, [.ref 28, .int (nI 4), .int y, .long 0, .retAddr 0, .int (nI 0)], [], MW A B F sw, 0, 0)) 6 rfl ?_
  refine for_ind (P := fun (k : Nat) (a : Int64) => mv_Wp xs Ls 3 6 false (some .long) mv_c120 (255, [.ref 28, .int (nI 4), .int y, .long a, .retAddr 0, .int (nI k)], [], MW A B F sw, 0, 0) (some (.long (nearT n nb)), MW A B F sw, 0, 0)) (f := fun k (a : Int64) => a + (if nearAllN n nb k then 1 else 0)) (n := (2 ^ n)) ?_ (2 ^ n) 0 (Nat.le_refl _) ?_  
  · intro k a hk ih  
    refine wp_go (f' := (258, [.ref 28, .int (nI 4), .int y, .long a, .retAddr 0, .int (nI k)], [.ref 28, .int (nI k)], MW A B F sw, 0, 0)) 2 rfl ?_
    refine wp_call rfl rfl rfl (ev_up (ev_all hM) (by decide)) ?_
    refine wp_eq (f' := (261, [.ref 28, .int (nI 4), .int y, .long a, .retAddr 0, .int (nI k)], [.int (nI (2 ^ n - 1)), .int (nI k)], MW A B F sw, 0, 0)) rfl ?_
    refine wp_go (f' := ((if (nI (2 ^ n - 1)) < (nI k) then 384 else 264), [.ref 28, .int (nI 4), .int y, .long a, .retAddr 0, .int (nI k)], [], MW A B F sw, 0, 0)) 1 rfl ?_
    refine wp_ite (fun h9 => absurd h9 (nI_nlt (by omega) (by omega))) (fun _ => ?_)
    refine wp_go (f' := ((if ¬ (nI 4) = 0 then 288 else 268), [.ref 28, .int (nI 4), .int y, .long a, .retAddr 0, .int (nI k)], [], MW A B F sw, 0, 0)) 2 rfl ?_
    refine wp_ite (fun _ => ?_) (fun h9 => absurd (by decide : ¬ nI 4 = 0) h9)
    refine wp_go (f' := ((if ¬ (nI 4) = (nI 4) then 313 else 293), [.ref 28, .int (nI 4), .int y, .long a, .retAddr 0, .int (nI k)], [], MW A B F sw, 0, 0)) 3 rfl ?_
    refine wp_ite (fun h9 => absurd h9 (fun h8 => h8 rfl : ¬ ¬ nI 4 = nI 4)) (fun _ => ?_)
    refine wp_go (f' := (297, [.ref 28, .int (nI 4), .int y, .long a, .retAddr 0, .int (nI k)], [.int (nI k), .ref 28, .long a], MW A B F sw, 0, 0)) 3 rfl ?_
    refine wp_call rfl rfl rfl (ev_up (ev_isNearAll hM (s := k) (by omega)) (by decide)) ?_
    refine wp_eq (f' := (300, [.ref 28, .int (nI 4), .int y, .long a, .retAddr 0, .int (nI k)], [.int (bI (nearAllN n nb k)), .long a], MW A B F sw, 0, 0)) rfl ?_
    refine wp_go (f' := ((if (bI (nearAllN n nb k)) = 0 then 307 else 303), [.ref 28, .int (nI 4), .int y, .long a, .retAddr 0, .int (nI k)], [.long a], MW A B F sw, 0, 0)) 1 rfl ?_
    refine wp_ite (fun h1 => ?_) (fun h1 => ?_)
    · have h1 := bI_0.mp h1
      refine wp_go (f' := (381, [.ref 28, .int (nI 4), .int y, .long (a + 0), .retAddr 0, .int ((nI k) + 1)], [], MW A B F sw, 0, 0)) 5 rfl ?_
      rw [nI_1]
      refine wp_go (f' := (255, [.ref 28, .int (nI 4), .int y, .long (a + 0), .retAddr 0, .int (nI (k + 1))], [], MW A B F sw, 0, 0)) 1 rfl ?_
      refine wp_eq ?_ ih
      first | (simp [h1]; done) | simp only [h1, if_true, if_false, reduceIte, Bool.false_eq_true]
    · have h1 := bI_n0 h1
      refine wp_go (f' := (381, [.ref 28, .int (nI 4), .int y, .long (a + 1), .retAddr 0, .int ((nI k) + 1)], [], MW A B F sw, 0, 0)) 6 rfl ?_
      rw [nI_1]
      refine wp_go (f' := (255, [.ref 28, .int (nI 4), .int y, .long (a + 1), .retAddr 0, .int (nI (k + 1))], [], MW A B F sw, 0, 0)) 1 rfl ?_
      refine wp_eq ?_ ih
      first | (simp [h1]; done) | simp only [h1, if_true, if_false, reduceIte, Bool.false_eq_true]
  · skip
    refine wp_go (f' := (258, [.ref 28, .int (nI 4), .int y, .long (nearT n nb), .retAddr 0, .int (nI (2 ^ n))], [.ref 28, .int (nI (2 ^ n))], MW A B F sw, 0, 0)) 2 rfl ?_
    refine wp_call rfl rfl rfl (ev_up (ev_all hM) (by decide)) ?_
    refine wp_eq (f' := (261, [.ref 28, .int (nI 4), .int y, .long (nearT n nb), .retAddr 0, .int (nI (2 ^ n))], [.int (nI (2 ^ n - 1)), .int (nI (2 ^ n))], MW A B F sw, 0, 0)) rfl ?_
    refine wp_go (f' := ((if (nI (2 ^ n - 1)) < (nI (2 ^ n)) then 384 else 264), [.ref 28, .int (nI 4), .int y, .long (nearT n nb), .retAddr 0, .int (nI (2 ^ n))], [], MW A B F sw, 0, 0)) 1 rfl ?_
    refine wp_ite (fun _ => ?_) (fun h9 => absurd (nI_lt (by omega) (by omega)) h9)
    refine wp_go (f' := (385, [.ref 28, .int (nI 4), .int y, .long (nearT n nb), .retAddr 0, .int (nI (2 ^ n))], [.long (nearT n nb)], MW A B F sw, 0, 0)) 1 rfl ?_
    exact wp_lret rfl
def wholeT (n : Nat) (nb : Nat → Nat) : Int64 := forN (fun k (a : Int64) => a + (if ¬ k = 0 ∧ wholeN n nb k = true then 1 else 0)) (2 ^ n) 0
theorem ev_total12 (hM : MI A F n nb) (y : Int32) : mv_Ev xs Ls 4 120 [.ref 28, .int (nI 12), .int y] (MW A B F sw) (some (.long (wholeT n nb)), MW A B F sw, 0, 0) := by
  refine ev_of_wp rfl rfl rfl ?_
  have hn := hM.1
  have hp := pow10 hn
  have hp1 : 1 ≤ 2 ^ n := Nat.one_le_two_pow
  have hal := all_lt hn
  refine wp_go (f' := (4, [.ref 28, .int (nI 12), .int y, .retAddr 0, .retAddr 0, .retAddr 0], [.int (nI 13), .int (nI 0), .int (nI 12)], MW A B F sw, 0, 0)) 3 rfl ?_
  refine wp_call rfl rfl rfl (ev_up (ev_isIn (nI 12) (nI 0) (nI 13) _) (by decide)) ?_
  refine wp_eq (f' := (7, [.ref 28, .int (nI 12), .int y, .retAddr 0, .retAddr 0, .retAddr 0], [.int (bI (decide ((nI 0) ≤ (nI 12)) && decide ((nI 12) ≤ (nI 13))))], MW A B F sw, 0, 0)) rfl ?_
  refine wp_go (f' := ((if (bI (decide ((nI 0) ≤ (nI 12)) && decide ((nI 12) ≤ (nI 13)))) = 0 then 25 else 10), [.ref 28, .int (nI 12), .int y, .retAddr 0, .retAddr 0, .retAddr 0], [], MW A B F sw, 0, 0)) 1 rfl ?_
  refine wp_ite (fun h9 => absurd h9 (by decide : ¬ bI (decide ((nI 0) ≤ (nI 12)) && decide ((nI 12) ≤ (nI 13))) = 0)) (fun _ => ?_)
  refine wp_go (f' := ((if ¬ (nI 12) = (nI 1) then 29 else 15), [.ref 28, .int (nI 12), .int y, .retAddr 0, .retAddr 0, .retAddr 0], [], MW A B F sw, 0, 0)) 3 rfl ?_
  refine wp_ite (fun _ => ?_) (fun h9 => absurd (by decide : ¬ nI 12 = nI 1) h9)
  refine wp_go (f' := (255, [.ref 28, .int (nI 12), .int y, .long 0, .retAddr 0, .int (nI 0)], [], MW A B F sw, 0, 0)) 6 rfl ?_
  refine for_ind (P := fun (k : Nat) (a : Int64) => mv_Wp xs Ls 3 6 false (some .long) mv_c120 (255, [.ref 28, .int (nI 12), .int y, .long a, .retAddr 0, .int (nI k)], [], MW A B F sw, 0, 0) (some (.long (wholeT n nb)), MW A B F sw, 0, 0)) (f := fun k (a : Int64) => a + (if ¬ k = 0 ∧ wholeN n nb k = true then 1 else 0)) (n := (2 ^ n)) ?_ (2 ^ n) 0 (Nat.le_refl _) ?_  
  · intro k a hk ih  
    refine wp_go (f' := (258, [.ref 28, .int (nI 12), .int y, .long a, .retAddr 0, .int (nI k)], [.ref 28, .int (nI k)], MW A B F sw, 0, 0)) 2 rfl ?_
    refine wp_call rfl rfl rfl (ev_up (ev_all hM) (by decide)) ?_
    refine wp_eq (f' := (261, [.ref 28, .int (nI 12), .int y, .long a, .retAddr 0, .int (nI k)], [.int (nI (2 ^ n - 1)), .int (nI k)], MW A B F sw, 0, 0)) rfl ?_
    refine wp_go (f' := ((if (nI (2 ^ n - 1)) < (nI k) then 384 else 264), [.ref 28, .int (nI 12), .int y, .long a, .retAddr 0, .int (nI k)], [], MW A B F sw, 0, 0)) 1 rfl ?_
    refine wp_ite (fun h9 => absurd h9 (nI_nlt (by omega) (by omega))) (fun _ => ?_)
    refine wp_go (f' := ((if ¬ (nI 12) = 0 then 288 else 268), [.ref 28, .int (nI 12), .int y, .long a, .retAddr 0, .int (nI k)], [], MW A B F sw, 0, 0)) 2 rfl ?_
    refine wp_ite (fun _ => ?_) (fun h9 => absurd (by decide : ¬ nI 12 = 0) h9)
    refine wp_go (f' := ((if ¬ (nI 12) = (nI 4) then 313 else 293), [.ref 28, .int (nI 12), .int y, .long a, .retAddr 0, .int (nI k)], [], MW A B F sw, 0, 0)) 3 rfl ?_
    refine wp_ite (fun _ => ?_) (fun h9 => absurd (by decide : ¬ nI 12 = nI 4) h9)
    refine wp_go (f' := ((if ¬ (nI 12) = (nI 12) then 344 else 319), [.ref 28, .int (nI 12), .int y, .long a, .retAddr 0, .int (nI k)], [], MW A B F sw, 0, 0)) 3 rfl ?_
    refine wp_ite (fun h9 => absurd h9 (fun h8 => h8 rfl : ¬ ¬ nI 12 = nI 12)) (fun _ => ?_)
    refine wp_go (f' := ((if (nI k) = 0 then 338 else 325), [.ref 28, .int (nI 12), .int y, .long a, .retAddr 0, .int (nI k)], [.long a], MW A B F sw, 0, 0)) 3 rfl ?_
    refine wp_ite (fun h1 => ?_) (fun h1 => ?_)
    · have h1 : k = 0 := (nI_eq (a := k) (b := 0) (by omega) (by omega)).mp h1
      refine wp_go (f' := (381, [.ref 28, .int (nI 12), .int y, .long (a + 0), .retAddr 0, .int ((nI k) + 1)], [], MW A B F sw, 0, 0)) 5 rfl ?_
      rw [nI_1]
      refine wp_go (f' := (255, [.ref 28, .int (nI 12), .int y, .long (a + 0), .retAddr 0, .int (nI (k + 1))], [], MW A B F sw, 0, 0)) 1 rfl ?_
      refine wp_eq ?_ ih
      first | (simp [h1]; done) | simp only [h1, if_true, if_false, reduceIte, Bool.false_eq_true]
    · have h1 : ¬ (k = 0) := fun h9 => h1 ((nI_eq (a := k) (b := 0) (by omega) (by omega)).mpr h9)
      refine wp_go (f' := (328, [.ref 28, .int (nI 12), .int y, .long a, .retAddr 0, .int (nI k)], [.int (nI k), .ref 28, .long a], MW A B F sw, 0, 0)) 2 rfl ?_
      refine wp_call rfl rfl rfl (ev_up (ev_isWhole hM (s := k) (by omega)) (by decide)) ?_
      refine wp_eq (f' := (331, [.ref 28, .int (nI 12), .int y, .long a, .retAddr 0, .int (nI k)], [.int (bI (wholeN n nb k)), .long a], MW A B F sw, 0, 0)) rfl ?_
      refine wp_go (f' := ((if (bI (wholeN n nb k)) = 0 then 338 else 334), [.ref 28, .int (nI 12), .int y, .long a, .retAddr 0, .int (nI k)], [.long a], MW A B F sw, 0, 0)) 1 rfl ?_
      refine wp_ite (fun h2 => ?_) (fun h2 => ?_)
      · have h2 := bI_0.mp h2
        refine wp_go (f' := (381, [.ref 28, .int (nI 12), .int y, .long (a + 0), .retAddr 0, .int ((nI k) + 1)], [], MW A B F sw, 0, 0)) 5 rfl ?_
        rw [nI_1]
        refine wp_go (f' := (255, [.ref 28, .int (nI 12), .int y, .long (a + 0), .retAddr 0, .int (nI (k + 1))], [], MW A B F sw, 0, 0)) 1 rfl ?_
        refine wp_eq ?_ ih
        first | (simp [h1, h2]; done) | simp only [h1, h2, if_true, if_false, reduceIte, Bool.false_eq_true]
      · have h2 := bI_n0 h2
        refine wp_go (f' := (381, [.ref 28, .int (nI 12), .int y, .long (a + 1), .retAddr 0, .int ((nI k) + 1)], [], MW A B F sw, 0, 0)) 6 rfl ?_
        rw [nI_1]
        refine wp_go (f' := (255, [.ref 28, .int (nI 12), .int y, .long (a + 1), .retAddr 0, .int (nI (k + 1))], [], MW A B F sw, 0, 0)) 1 rfl ?_
        refine wp_eq ?_ ih
        first | (simp [h1, h2]; done) | simp only [h1, h2, if_true, if_false, reduceIte, Bool.false_eq_true]
  · skip
    refine wp_go (f' := (258, [.ref 28, .int (nI 12), .int y, .long (wholeT n nb), .retAddr 0, .int (nI (2 ^ n))], [.ref 28, .int (nI (2 ^ n))], MW A B F sw, 0, 0)) 2 rfl ?_
    refine wp_call rfl rfl rfl (ev_up (ev_all hM) (by decide)) ?_
    refine wp_eq (f' := (261, [.ref 28, .int (nI 12), .int y, .long (wholeT n nb), .retAddr 0, .int (nI (2 ^ n))], [.int (nI (2 ^ n - 1)), .int (nI (2 ^ n))], MW A B F sw, 0, 0)) rfl ?_
    refine wp_go (f' := ((if (nI (2 ^ n - 1)) < (nI (2 ^ n)) then 384 else 264), [.ref 28, .int (nI 12), .int y, .long (wholeT n nb), .retAddr 0, .int (nI (2 ^ n))], [], MW A B F sw, 0, 0)) 1 rfl ?_
    refine wp_ite (fun _ => ?_) (fun h9 => absurd (nI_lt (by omega) (by omega)) h9)
    refine wp_go (f' := (385, [.ref 28, .int (nI 12), .int y, .long (wholeT n nb), .retAddr 0, .int (nI (2 ^ n))], [.long (wholeT n nb)], MW A B F sw, 0, 0)) 1 rfl ?_
    exact wp_lret rfl
def coverT (n : Nat) (nb : Nat → Nat) : Int64 := forN (fun k (a : Int64) => a + ((if pop k &&& 1 = 0 then 1 else (-1)) <<< ((nI (edgesN n nb (sd (2 ^ n - 1) k))).toInt64 &&& 63))) (2 ^ n) 0
theorem ev_total11 (hM : MI A F n nb) (y : Int32) : mv_Ev xs Ls 4 120 [.ref 28, .int (nI 11), .int y] (MW A B F sw) (some (.long (coverT n nb)), MW A B F sw, 0, 0) := by
  refine ev_of_wp rfl rfl rfl ?_
  have hn := hM.1
  have hp := pow10 hn
  have hp1 : 1 ≤ 2 ^ n := Nat.one_le_two_pow
  have hal := all_lt hn
  refine wp_go (f' := (4, [.ref 28, .int (nI 11), .int y, .retAddr 0, .retAddr 0, .retAddr 0], [.int (nI 13), .int (nI 0), .int (nI 11)], MW A B F sw, 0, 0)) 3 rfl ?_
  refine wp_call rfl rfl rfl (ev_up (ev_isIn (nI 11) (nI 0) (nI 13) _) (by decide)) ?_
  refine wp_eq (f' := (7, [.ref 28, .int (nI 11), .int y, .retAddr 0, .retAddr 0, .retAddr 0], [.int (bI (decide ((nI 0) ≤ (nI 11)) && decide ((nI 11) ≤ (nI 13))))], MW A B F sw, 0, 0)) rfl ?_
  refine wp_go (f' := ((if (bI (decide ((nI 0) ≤ (nI 11)) && decide ((nI 11) ≤ (nI 13)))) = 0 then 25 else 10), [.ref 28, .int (nI 11), .int y, .retAddr 0, .retAddr 0, .retAddr 0], [], MW A B F sw, 0, 0)) 1 rfl ?_
  refine wp_ite (fun h9 => absurd h9 (by decide : ¬ bI (decide ((nI 0) ≤ (nI 11)) && decide ((nI 11) ≤ (nI 13))) = 0)) (fun _ => ?_)
  refine wp_go (f' := ((if ¬ (nI 11) = (nI 1) then 29 else 15), [.ref 28, .int (nI 11), .int y, .retAddr 0, .retAddr 0, .retAddr 0], [], MW A B F sw, 0, 0)) 3 rfl ?_
  refine wp_ite (fun _ => ?_) (fun h9 => absurd (by decide : ¬ nI 11 = nI 1) h9)
  refine wp_go (f' := (255, [.ref 28, .int (nI 11), .int y, .long 0, .retAddr 0, .int (nI 0)], [], MW A B F sw, 0, 0)) 6 rfl ?_
  refine for_ind (P := fun (k : Nat) (a : Int64) => mv_Wp xs Ls 3 6 false (some .long) mv_c120 (255, [.ref 28, .int (nI 11), .int y, .long a, .retAddr 0, .int (nI k)], [], MW A B F sw, 0, 0) (some (.long (coverT n nb)), MW A B F sw, 0, 0)) (f := fun k (a : Int64) => a + ((if pop k &&& 1 = 0 then 1 else (-1)) <<< ((nI (edgesN n nb (sd (2 ^ n - 1) k))).toInt64 &&& 63))) (n := (2 ^ n)) ?_ (2 ^ n) 0 (Nat.le_refl _) ?_  
  · intro k a hk ih  
    refine wp_go (f' := (258, [.ref 28, .int (nI 11), .int y, .long a, .retAddr 0, .int (nI k)], [.ref 28, .int (nI k)], MW A B F sw, 0, 0)) 2 rfl ?_
    refine wp_call rfl rfl rfl (ev_up (ev_all hM) (by decide)) ?_
    refine wp_eq (f' := (261, [.ref 28, .int (nI 11), .int y, .long a, .retAddr 0, .int (nI k)], [.int (nI (2 ^ n - 1)), .int (nI k)], MW A B F sw, 0, 0)) rfl ?_
    refine wp_go (f' := ((if (nI (2 ^ n - 1)) < (nI k) then 384 else 264), [.ref 28, .int (nI 11), .int y, .long a, .retAddr 0, .int (nI k)], [], MW A B F sw, 0, 0)) 1 rfl ?_
    refine wp_ite (fun h9 => absurd h9 (nI_nlt (by omega) (by omega))) (fun _ => ?_)
    refine wp_go (f' := ((if ¬ (nI 11) = 0 then 288 else 268), [.ref 28, .int (nI 11), .int y, .long a, .retAddr 0, .int (nI k)], [], MW A B F sw, 0, 0)) 2 rfl ?_
    refine wp_ite (fun _ => ?_) (fun h9 => absurd (by decide : ¬ nI 11 = 0) h9)
    refine wp_go (f' := ((if ¬ (nI 11) = (nI 4) then 313 else 293), [.ref 28, .int (nI 11), .int y, .long a, .retAddr 0, .int (nI k)], [], MW A B F sw, 0, 0)) 3 rfl ?_
    refine wp_ite (fun _ => ?_) (fun h9 => absurd (by decide : ¬ nI 11 = nI 4) h9)
    refine wp_go (f' := ((if ¬ (nI 11) = (nI 12) then 344 else 319), [.ref 28, .int (nI 11), .int y, .long a, .retAddr 0, .int (nI k)], [], MW A B F sw, 0, 0)) 3 rfl ?_
    refine wp_ite (fun _ => ?_) (fun h9 => absurd (by decide : ¬ nI 11 = nI 12) h9)
    refine wp_go (f' := (347, [.ref 28, .int (nI 11), .int y, .long a, .retAddr 0, .int (nI k)], [.int (nI k), .long a], MW A B F sw, 0, 0)) 2 rfl ?_
    refine wp_call rfl rfl rfl (ev_up (ev_onesN (s := k) (by omega) _) (by decide)) ?_
    refine wp_eq (f' := (350, [.ref 28, .int (nI 11), .int y, .long a, .retAddr 0, .int (nI k)], [.int (nI (pop k)), .long a], MW A B F sw, 0, 0)) rfl ?_
    have hpp := pop_le (s := k) (by omega)
    refine wp_go (f' := (352, [.ref 28, .int (nI 11), .int y, .long a, .retAddr 0, .int (nI k)], [.int ((nI (pop k)) &&& (nI 1)), .long a], MW A B F sw, 0, 0)) 2 rfl ?_
    rw [bx_and]
    have hb1 : (pop k) &&& 1 < 1024 := by first | omega | exact or_lt (by omega) (by omega) | exact and_lt (by omega) | exact and_lt_r (by omega) | exact sd_lt (by omega) | exact pow_lt (by omega)
    refine wp_go (f' := ((if ¬ (nI ((pop k) &&& 1)) = 0 then 359 else 355), [.ref 28, .int (nI 11), .int y, .long a, .retAddr 0, .int (nI k)], [.long a], MW A B F sw, 0, 0)) 1 rfl ?_
    refine wp_ite (fun h1 => ?_) (fun h1 => ?_)
    · have h1 : ¬ ((pop k) &&& 1 = 0) := fun h9 => h1 ((nI_eq (a := (pop k) &&& 1) (b := 0) (by omega) (by omega)).mpr h9)
      refine wp_go (f' := (364, [.ref 28, .int (nI 11), .int y, .long a, .retAddr 0, .int (nI k)], [.ref 28, .ref 28, .long (-1), .long a], MW A B F sw, 0, 0)) 3 rfl ?_
      refine wp_call rfl rfl rfl (ev_up (ev_all hM) (by decide)) ?_
      refine wp_eq (f' := (367, [.ref 28, .int (nI 11), .int y, .long a, .retAddr 0, .int (nI k)], [.int (nI (2 ^ n - 1)), .ref 28, .long (-1), .long a], MW A B F sw, 0, 0)) rfl ?_
      refine wp_go (f' := (372, [.ref 28, .int (nI 11), .int y, .long a, .retAddr 0, .int (nI k)], [.int ((nI (2 ^ n - 1)) &&& ((nI k) ^^^ (-1))), .ref 28, .long (-1), .long a], MW A B F sw, 0, 0)) 4 rfl ?_
      rw [bx_sd (by omega)]
      have hb2 : sd (2 ^ n - 1) k < 1024 := by first | omega | exact or_lt (by omega) (by omega) | exact and_lt (by omega) | exact and_lt_r (by omega) | exact sd_lt (by omega) | exact pow_lt (by omega)
      refine wp_call rfl rfl rfl (ev_up (ev_edgesIn hM (s := sd (2 ^ n - 1) k) (by omega)) (by decide)) ?_
      refine wp_eq (f' := (375, [.ref 28, .int (nI 11), .int y, .long a, .retAddr 0, .int (nI k)], [.int (nI (edgesN n nb (sd (2 ^ n - 1) k))), .long (-1), .long a], MW A B F sw, 0, 0)) rfl ?_
      have hed := edgesN_le (nb := nb) hM.1 (s := sd (2 ^ n - 1) k) (by omega)
      refine wp_go (f' := (381, [.ref 28, .int (nI 11), .int y, .long (a + ((-1) <<< ((nI (edgesN n nb (sd (2 ^ n - 1) k))).toInt64 &&& 63))), .retAddr 0, .int ((nI k) + 1)], [], MW A B F sw, 0, 0)) 4 rfl ?_
      rw [nI_1]
      refine wp_go (f' := (255, [.ref 28, .int (nI 11), .int y, .long (a + ((-1) <<< ((nI (edgesN n nb (sd (2 ^ n - 1) k))).toInt64 &&& 63))), .retAddr 0, .int (nI (k + 1))], [], MW A B F sw, 0, 0)) 1 rfl ?_
      refine wp_eq ?_ ih
      first | (simp [h1]; done) | simp only [h1, if_true, if_false, reduceIte, Bool.false_eq_true]
    · have h1 := Classical.not_not.mp h1; have h1 : (pop k) &&& 1 = 0 := (nI_eq (a := (pop k) &&& 1) (b := 0) (by omega) (by omega)).mp h1
      refine wp_go (f' := (364, [.ref 28, .int (nI 11), .int y, .long a, .retAddr 0, .int (nI k)], [.ref 28, .ref 28, .long 1, .long a], MW A B F sw, 0, 0)) 4 rfl ?_
      refine wp_call rfl rfl rfl (ev_up (ev_all hM) (by decide)) ?_
      refine wp_eq (f' := (367, [.ref 28, .int (nI 11), .int y, .long a, .retAddr 0, .int (nI k)], [.int (nI (2 ^ n - 1)), .ref 28, .long 1, .long a], MW A B F sw, 0, 0)) rfl ?_
      refine wp_go (f' := (372, [.ref 28, .int (nI 11), .int y, .long a, .retAddr 0, .int (nI k)], [.int ((nI (2 ^ n - 1)) &&& ((nI k) ^^^ (-1))), .ref 28, .long 1, .long a], MW A B F sw, 0, 0)) 4 rfl ?_
      rw [bx_sd (by omega)]
      have hb3 : sd (2 ^ n - 1) k < 1024 := by first | omega | exact or_lt (by omega) (by omega) | exact and_lt (by omega) | exact and_lt_r (by omega) | exact sd_lt (by omega) | exact pow_lt (by omega)
      refine wp_call rfl rfl rfl (ev_up (ev_edgesIn hM (s := sd (2 ^ n - 1) k) (by omega)) (by decide)) ?_
      refine wp_eq (f' := (375, [.ref 28, .int (nI 11), .int y, .long a, .retAddr 0, .int (nI k)], [.int (nI (edgesN n nb (sd (2 ^ n - 1) k))), .long 1, .long a], MW A B F sw, 0, 0)) rfl ?_
      have hed := edgesN_le (nb := nb) hM.1 (s := sd (2 ^ n - 1) k) (by omega)
      refine wp_go (f' := (381, [.ref 28, .int (nI 11), .int y, .long (a + (1 <<< ((nI (edgesN n nb (sd (2 ^ n - 1) k))).toInt64 &&& 63))), .retAddr 0, .int ((nI k) + 1)], [], MW A B F sw, 0, 0)) 4 rfl ?_
      rw [nI_1]
      refine wp_go (f' := (255, [.ref 28, .int (nI 11), .int y, .long (a + (1 <<< ((nI (edgesN n nb (sd (2 ^ n - 1) k))).toInt64 &&& 63))), .retAddr 0, .int (nI (k + 1))], [], MW A B F sw, 0, 0)) 1 rfl ?_
      refine wp_eq ?_ ih
      first | (simp [h1]; done) | simp only [h1, if_true, if_false, reduceIte, Bool.false_eq_true]
  · skip
    refine wp_go (f' := (258, [.ref 28, .int (nI 11), .int y, .long (coverT n nb), .retAddr 0, .int (nI (2 ^ n))], [.ref 28, .int (nI (2 ^ n))], MW A B F sw, 0, 0)) 2 rfl ?_
    refine wp_call rfl rfl rfl (ev_up (ev_all hM) (by decide)) ?_
    refine wp_eq (f' := (261, [.ref 28, .int (nI 11), .int y, .long (coverT n nb), .retAddr 0, .int (nI (2 ^ n))], [.int (nI (2 ^ n - 1)), .int (nI (2 ^ n))], MW A B F sw, 0, 0)) rfl ?_
    refine wp_go (f' := ((if (nI (2 ^ n - 1)) < (nI (2 ^ n)) then 384 else 264), [.ref 28, .int (nI 11), .int y, .long (coverT n nb), .retAddr 0, .int (nI (2 ^ n))], [], MW A B F sw, 0, 0)) 1 rfl ?_
    refine wp_ite (fun _ => ?_) (fun h9 => absurd (nI_lt (by omega) (by omega)) h9)
    refine wp_go (f' := (385, [.ref 28, .int (nI 11), .int y, .long (coverT n nb), .retAddr 0, .int (nI (2 ^ n))], [.long (coverT n nb)], MW A B F sw, 0, 0)) 1 rfl ?_
    exact wp_lret rfl
theorem ev_total2 (hM : MI A F n nb) (y : Int32) : mv_Ev xs Ls 4 120 [.ref 28, .int (nI 2), .int y] (MW A B F sw) (some (.long ((tabN (matG n nb false) n (vp_updL (B 38) 0 1)) (2 ^ n - 1))), MW A (upB B 38 (tabN (matG n nb false) n (vp_updL (B 38) 0 1))) F sw, 0, 0) := by
  refine ev_of_wp rfl rfl rfl ?_
  refine wp_go (f' := (4, [.ref 28, .int (nI 2), .int y, .retAddr 0, .retAddr 0, .retAddr 0], [.int (nI 13), .int (nI 0), .int (nI 2)], MW A B F sw, 0, 0)) 3 rfl ?_
  refine wp_call rfl rfl rfl (ev_up (ev_isIn (nI 2) (nI 0) (nI 13) _) (by decide)) ?_
  refine wp_eq (f' := (7, [.ref 28, .int (nI 2), .int y, .retAddr 0, .retAddr 0, .retAddr 0], [.int (bI (decide ((nI 0) ≤ (nI 2)) && decide ((nI 2) ≤ (nI 13))))], MW A B F sw, 0, 0)) rfl ?_
  refine wp_go (f' := ((if (bI (decide ((nI 0) ≤ (nI 2)) && decide ((nI 2) ≤ (nI 13)))) = 0 then 25 else 10), [.ref 28, .int (nI 2), .int y, .retAddr 0, .retAddr 0, .retAddr 0], [], MW A B F sw, 0, 0)) 1 rfl ?_
  refine wp_ite (fun h9 => absurd h9 (by decide : ¬ bI (decide ((nI 0) ≤ (nI 2)) && decide ((nI 2) ≤ (nI 13))) = 0)) (fun _ => ?_)
  refine wp_go (f' := ((if ¬ (nI 2) = (nI 1) then 29 else 15), [.ref 28, .int (nI 2), .int y, .retAddr 0, .retAddr 0, .retAddr 0], [], MW A B F sw, 0, 0)) 3 rfl ?_
  refine wp_ite (fun _ => ?_) (fun h9 => absurd (by decide : ¬ nI 2 = nI 1) h9)
  refine wp_go (f' := (108, [.ref 28, .int (nI 2), .int y, .long 0, .retAddr 0, .retAddr 0], [.int (nI 0), .ref 28], MW A B F sw, 0, 0)) 6 rfl ?_
  refine wp_call rfl rfl rfl (ev_up (ev_matchings0 hM) (by decide)) ?_
  refine wp_eq (f' := (111, [.ref 28, .int (nI 2), .int y, .long 0, .retAddr 0, .retAddr 0], [.long ((tabN (matG n nb false) n (vp_updL (B 38) 0 1)) (2 ^ n - 1))], MW A (upB B 38 (tabN (matG n nb false) n (vp_updL (B 38) 0 1))) F sw, 0, 0)) rfl ?_
  exact wp_lret rfl
theorem ev_total3 (hM : MI A F n nb) (y : Int32) : mv_Ev xs Ls 4 120 [.ref 28, .int (nI 3), .int y] (MW A B F sw) (some (.long ((tabN (matG n nb true) n (vp_updL (B 38) 0 1)) (2 ^ n - 1))), MW A (upB B 38 (tabN (matG n nb true) n (vp_updL (B 38) 0 1))) F sw, 0, 0) := by
  refine ev_of_wp rfl rfl rfl ?_
  refine wp_go (f' := (4, [.ref 28, .int (nI 3), .int y, .retAddr 0, .retAddr 0, .retAddr 0], [.int (nI 13), .int (nI 0), .int (nI 3)], MW A B F sw, 0, 0)) 3 rfl ?_
  refine wp_call rfl rfl rfl (ev_up (ev_isIn (nI 3) (nI 0) (nI 13) _) (by decide)) ?_
  refine wp_eq (f' := (7, [.ref 28, .int (nI 3), .int y, .retAddr 0, .retAddr 0, .retAddr 0], [.int (bI (decide ((nI 0) ≤ (nI 3)) && decide ((nI 3) ≤ (nI 13))))], MW A B F sw, 0, 0)) rfl ?_
  refine wp_go (f' := ((if (bI (decide ((nI 0) ≤ (nI 3)) && decide ((nI 3) ≤ (nI 13)))) = 0 then 25 else 10), [.ref 28, .int (nI 3), .int y, .retAddr 0, .retAddr 0, .retAddr 0], [], MW A B F sw, 0, 0)) 1 rfl ?_
  refine wp_ite (fun h9 => absurd h9 (by decide : ¬ bI (decide ((nI 0) ≤ (nI 3)) && decide ((nI 3) ≤ (nI 13))) = 0)) (fun _ => ?_)
  refine wp_go (f' := ((if ¬ (nI 3) = (nI 1) then 29 else 15), [.ref 28, .int (nI 3), .int y, .retAddr 0, .retAddr 0, .retAddr 0], [], MW A B F sw, 0, 0)) 3 rfl ?_
  refine wp_ite (fun _ => ?_) (fun h9 => absurd (by decide : ¬ nI 3 = nI 1) h9)
  refine wp_go (f' := (114, [.ref 28, .int (nI 3), .int y, .long 0, .retAddr 0, .retAddr 0], [.int (nI 1), .ref 28], MW A B F sw, 0, 0)) 6 rfl ?_
  refine wp_call rfl rfl rfl (ev_up (ev_matchings1 hM) (by decide)) ?_
  refine wp_eq (f' := (117, [.ref 28, .int (nI 3), .int y, .long 0, .retAddr 0, .retAddr 0], [.long ((tabN (matG n nb true) n (vp_updL (B 38) 0 1)) (2 ^ n - 1))], MW A (upB B 38 (tabN (matG n nb true) n (vp_updL (B 38) 0 1))) F sw, 0, 0)) rfl ?_
  exact wp_lret rfl
theorem ev_total9 (hM : MI A F n nb) (y : Int32) : mv_Ev xs Ls 4 120 [.ref 28, .int (nI 9), .int y] (MW A B F sw) (some (.long (if n = 0 then 0 else (tabN (wholG n nb) n (B 38)) (2 ^ n - 1))), MW A (upB B 38 (tabN (wholG n nb) n (B 38))) F sw, 0, 0) := by
  refine ev_of_wp rfl rfl rfl ?_
  refine wp_go (f' := (4, [.ref 28, .int (nI 9), .int y, .retAddr 0, .retAddr 0, .retAddr 0], [.int (nI 13), .int (nI 0), .int (nI 9)], MW A B F sw, 0, 0)) 3 rfl ?_
  refine wp_call rfl rfl rfl (ev_up (ev_isIn (nI 9) (nI 0) (nI 13) _) (by decide)) ?_
  refine wp_eq (f' := (7, [.ref 28, .int (nI 9), .int y, .retAddr 0, .retAddr 0, .retAddr 0], [.int (bI (decide ((nI 0) ≤ (nI 9)) && decide ((nI 9) ≤ (nI 13))))], MW A B F sw, 0, 0)) rfl ?_
  refine wp_go (f' := ((if (bI (decide ((nI 0) ≤ (nI 9)) && decide ((nI 9) ≤ (nI 13)))) = 0 then 25 else 10), [.ref 28, .int (nI 9), .int y, .retAddr 0, .retAddr 0, .retAddr 0], [], MW A B F sw, 0, 0)) 1 rfl ?_
  refine wp_ite (fun h9 => absurd h9 (by decide : ¬ bI (decide ((nI 0) ≤ (nI 9)) && decide ((nI 9) ≤ (nI 13))) = 0)) (fun _ => ?_)
  refine wp_go (f' := ((if ¬ (nI 9) = (nI 1) then 29 else 15), [.ref 28, .int (nI 9), .int y, .retAddr 0, .retAddr 0, .retAddr 0], [], MW A B F sw, 0, 0)) 3 rfl ?_
  refine wp_ite (fun _ => ?_) (fun h9 => absurd (by decide : ¬ nI 9 = nI 1) h9)
  refine wp_go (f' := (222, [.ref 28, .int (nI 9), .int y, .long 0, .retAddr 0, .retAddr 0], [.ref 28], MW A B F sw, 0, 0)) 5 rfl ?_
  refine wp_call rfl rfl rfl (ev_up (ev_wholes hM) (by decide)) ?_
  refine wp_eq (f' := (225, [.ref 28, .int (nI 9), .int y, .long 0, .retAddr 0, .retAddr 0], [.long (if n = 0 then 0 else (tabN (wholG n nb) n (B 38)) (2 ^ n - 1))], MW A (upB B 38 (tabN (wholG n nb) n (B 38))) F sw, 0, 0)) rfl ?_
  exact wp_lret rfl
theorem ev_total10 (hM : MI A F n nb) (y : Int32) : mv_Ev xs Ls 4 120 [.ref 28, .int (nI 10), .int y] (MW A B F sw) (some (.long ((tabN (dirG n nb) n (vp_updL (B 38) 0 1)) (2 ^ n - 1))), MW A (upB B 38 (tabN (dirG n nb) n (vp_updL (B 38) 0 1))) F sw, 0, 0) := by
  refine ev_of_wp rfl rfl rfl ?_
  refine wp_go (f' := (4, [.ref 28, .int (nI 10), .int y, .retAddr 0, .retAddr 0, .retAddr 0], [.int (nI 13), .int (nI 0), .int (nI 10)], MW A B F sw, 0, 0)) 3 rfl ?_
  refine wp_call rfl rfl rfl (ev_up (ev_isIn (nI 10) (nI 0) (nI 13) _) (by decide)) ?_
  refine wp_eq (f' := (7, [.ref 28, .int (nI 10), .int y, .retAddr 0, .retAddr 0, .retAddr 0], [.int (bI (decide ((nI 0) ≤ (nI 10)) && decide ((nI 10) ≤ (nI 13))))], MW A B F sw, 0, 0)) rfl ?_
  refine wp_go (f' := ((if (bI (decide ((nI 0) ≤ (nI 10)) && decide ((nI 10) ≤ (nI 13)))) = 0 then 25 else 10), [.ref 28, .int (nI 10), .int y, .retAddr 0, .retAddr 0, .retAddr 0], [], MW A B F sw, 0, 0)) 1 rfl ?_
  refine wp_ite (fun h9 => absurd h9 (by decide : ¬ bI (decide ((nI 0) ≤ (nI 10)) && decide ((nI 10) ≤ (nI 13))) = 0)) (fun _ => ?_)
  refine wp_go (f' := ((if ¬ (nI 10) = (nI 1) then 29 else 15), [.ref 28, .int (nI 10), .int y, .retAddr 0, .retAddr 0, .retAddr 0], [], MW A B F sw, 0, 0)) 3 rfl ?_
  refine wp_ite (fun _ => ?_) (fun h9 => absurd (by decide : ¬ nI 10 = nI 1) h9)
  refine wp_go (f' := (227, [.ref 28, .int (nI 10), .int y, .long 0, .retAddr 0, .retAddr 0], [.ref 28], MW A B F sw, 0, 0)) 5 rfl ?_
  refine wp_call rfl rfl rfl (ev_up (ev_directions hM) (by decide)) ?_
  refine wp_eq (f' := (230, [.ref 28, .int (nI 10), .int y, .long 0, .retAddr 0, .retAddr 0], [.long ((tabN (dirG n nb) n (vp_updL (B 38) 0 1)) (2 ^ n - 1))], MW A (upB B 38 (tabN (dirG n nb) n (vp_updL (B 38) 0 1))) F sw, 0, 0)) rfl ?_
  exact wp_lret rfl
theorem ev_total13 (hM : MI A F n nb) {ed : Nat} (hE : F 7 = nI ed) (y : Int32) : mv_Ev xs Ls 4 120 [.ref 28, .int (nI 13), .int y] (MW A B F sw) (some (.long (1 <<< (((nI ed - nI n) + nI (partsN n nb (2 ^ n - 1))).toInt64 &&& 63))), MW A B F sw, 0, 0) := by
  refine ev_of_wp rfl rfl rfl ?_
  have hn := hM.1
  have hp := pow10 hn
  have hp1 : 1 ≤ 2 ^ n := Nat.one_le_two_pow
  have hal := all_lt hn
  refine wp_go (f' := (4, [.ref 28, .int (nI 13), .int y, .retAddr 0, .retAddr 0, .retAddr 0], [.int (nI 13), .int (nI 0), .int (nI 13)], MW A B F sw, 0, 0)) 3 rfl ?_
  refine wp_call rfl rfl rfl (ev_up (ev_isIn (nI 13) (nI 0) (nI 13) _) (by decide)) ?_
  refine wp_eq (f' := (7, [.ref 28, .int (nI 13), .int y, .retAddr 0, .retAddr 0, .retAddr 0], [.int (bI (decide ((nI 0) ≤ (nI 13)) && decide ((nI 13) ≤ (nI 13))))], MW A B F sw, 0, 0)) rfl ?_
  refine wp_go (f' := ((if (bI (decide ((nI 0) ≤ (nI 13)) && decide ((nI 13) ≤ (nI 13)))) = 0 then 25 else 10), [.ref 28, .int (nI 13), .int y, .retAddr 0, .retAddr 0, .retAddr 0], [], MW A B F sw, 0, 0)) 1 rfl ?_
  refine wp_ite (fun h9 => absurd h9 (by decide : ¬ bI (decide ((nI 0) ≤ (nI 13)) && decide ((nI 13) ≤ (nI 13))) = 0)) (fun _ => ?_)
  refine wp_go (f' := ((if ¬ (nI 13) = (nI 1) then 29 else 15), [.ref 28, .int (nI 13), .int y, .retAddr 0, .retAddr 0, .retAddr 0], [], MW A B F sw, 0, 0)) 3 rfl ?_
  refine wp_ite (fun _ => ?_) (fun h9 => absurd (by decide : ¬ nI 13 = nI 1) h9)
  refine wp_go (f' := (236, [.ref 28, .int (nI 13), .int y, .long 0, .retAddr 0, .retAddr 0], [.int (F 7), .long 1], MW A B F sw, 0, 0)) 7 rfl ?_
  rw [hE]
  refine wp_go (f' := (240, [.ref 28, .int (nI 13), .int y, .long 0, .retAddr 0, .retAddr 0], [.int (F 6), .int (nI ed), .long 1], MW A B F sw, 0, 0)) 2 rfl ?_
  rw [hM.2.1]
  refine wp_go (f' := (243, [.ref 28, .int (nI 13), .int y, .long 0, .retAddr 0, .retAddr 0], [.ref 28, .ref 28, .int ((nI ed) - (nI n)), .long 1], MW A B F sw, 0, 0)) 3 rfl ?_
  refine wp_call rfl rfl rfl (ev_up (ev_all hM) (by decide)) ?_
  refine wp_eq (f' := (246, [.ref 28, .int (nI 13), .int y, .long 0, .retAddr 0, .retAddr 0], [.int (nI (2 ^ n - 1)), .ref 28, .int ((nI ed) - (nI n)), .long 1], MW A B F sw, 0, 0)) rfl ?_
  refine wp_call rfl rfl rfl (ev_up (ev_parts hM (s := 2 ^ n - 1) (by omega)) (by decide)) ?_
  refine wp_eq (f' := (249, [.ref 28, .int (nI 13), .int y, .long 0, .retAddr 0, .retAddr 0], [.int (nI (partsN n nb (2 ^ n - 1))), .int ((nI ed) - (nI n)), .long 1], MW A B F sw, 0, 0)) rfl ?_
  refine wp_go (f' := (251, [.ref 28, .int (nI 13), .int y, .long 0, .retAddr 0, .retAddr 0], [.long (1 <<< ((((nI ed) - (nI n)) + (nI (partsN n nb (2 ^ n - 1)))).toInt64 &&& 63))], MW A B F sw, 0, 0)) 2 rfl ?_
  exact wp_lret rfl
theorem ev_total_f1 {x y : Int32} (hx : outN x 13 = true) : mv_Ev xs Ls 4 120 [.ref 28, .int x, .int y] (MW A B F sw) (some (.long (-2)), MW A B F sw, 0, 0) := by
  refine ev_of_wp rfl rfl rfl ?_
  refine wp_go (f' := (4, [.ref 28, .int x, .int y, .retAddr 0, .retAddr 0, .retAddr 0], [.int (nI 13), .int (nI 0), .int x], MW A B F sw, 0, 0)) 3 rfl ?_
  refine wp_call rfl rfl rfl (ev_up (ev_isIn x (nI 0) (nI 13) _) (by decide)) ?_
  refine wp_eq (f' := (7, [.ref 28, .int x, .int y, .retAddr 0, .retAddr 0, .retAddr 0], [.int (bI (decide ((nI 0) ≤ x) && decide (x ≤ (nI 13))))], MW A B F sw, 0, 0)) rfl ?_
  refine wp_go (f' := ((if (bI (decide ((nI 0) ≤ x) && decide (x ≤ (nI 13)))) = 0 then 25 else 10), [.ref 28, .int x, .int y, .retAddr 0, .retAddr 0, .retAddr 0], [], MW A B F sw, 0, 0)) 1 rfl ?_
  refine wp_ite (fun _ => ?_) (fun h9 => absurd (bI_f (by have h8 := hx; unfold outN at h8; rw [Bool.not_eq_true'] at h8; exact h8)) h9)
  refine wp_go (f' := (28, [.ref 28, .int x, .int y, .retAddr 0, .retAddr 0, .retAddr 0], [.long (-2)], MW A B F sw, 0, 0)) 1 rfl ?_
  exact wp_lret rfl
theorem ev_total_f2 {x : Int32} (hx : outN x 10 = true) : mv_Ev xs Ls 4 120 [.ref 28, .int (nI 1), .int x] (MW A B F sw) (some (.long (-2)), MW A B F sw, 0, 0) := by
  refine ev_of_wp rfl rfl rfl ?_
  refine wp_go (f' := (4, [.ref 28, .int (nI 1), .int x, .retAddr 0, .retAddr 0, .retAddr 0], [.int (nI 13), .int (nI 0), .int (nI 1)], MW A B F sw, 0, 0)) 3 rfl ?_
  refine wp_call rfl rfl rfl (ev_up (ev_isIn (nI 1) (nI 0) (nI 13) _) (by decide)) ?_
  refine wp_eq (f' := (7, [.ref 28, .int (nI 1), .int x, .retAddr 0, .retAddr 0, .retAddr 0], [.int (bI (decide ((nI 0) ≤ (nI 1)) && decide ((nI 1) ≤ (nI 13))))], MW A B F sw, 0, 0)) rfl ?_
  refine wp_go (f' := ((if (bI (decide ((nI 0) ≤ (nI 1)) && decide ((nI 1) ≤ (nI 13)))) = 0 then 25 else 10), [.ref 28, .int (nI 1), .int x, .retAddr 0, .retAddr 0, .retAddr 0], [], MW A B F sw, 0, 0)) 1 rfl ?_
  refine wp_ite (fun h9 => absurd h9 (by decide : ¬ bI (decide ((nI 0) ≤ (nI 1)) && decide ((nI 1) ≤ (nI 13))) = 0)) (fun _ => ?_)
  refine wp_go (f' := ((if ¬ (nI 1) = (nI 1) then 29 else 15), [.ref 28, .int (nI 1), .int x, .retAddr 0, .retAddr 0, .retAddr 0], [], MW A B F sw, 0, 0)) 3 rfl ?_
  refine wp_ite (fun h9 => absurd h9 (fun h8 => h8 rfl : ¬ ¬ nI 1 = nI 1)) (fun _ => ?_)
  refine wp_go (f' := (19, [.ref 28, .int (nI 1), .int x, .retAddr 0, .retAddr 0, .retAddr 0], [.int (nI 10), .int (nI 0), .int x], MW A B F sw, 0, 0)) 3 rfl ?_
  refine wp_call rfl rfl rfl (ev_up (ev_isIn x (nI 0) (nI 10) _) (by decide)) ?_
  refine wp_eq (f' := (22, [.ref 28, .int (nI 1), .int x, .retAddr 0, .retAddr 0, .retAddr 0], [.int (bI (decide ((nI 0) ≤ x) && decide (x ≤ (nI 10))))], MW A B F sw, 0, 0)) rfl ?_
  refine wp_go (f' := ((if ¬ (bI (decide ((nI 0) ≤ x) && decide (x ≤ (nI 10)))) = 0 then 29 else 25), [.ref 28, .int (nI 1), .int x, .retAddr 0, .retAddr 0, .retAddr 0], [], MW A B F sw, 0, 0)) 1 rfl ?_
  refine wp_ite (fun h9 => absurd h9 (fun h8 => h8 (bI_f (by have h8 := hx; unfold outN at h8; rw [Bool.not_eq_true'] at h8; exact h8)))) (fun _ => ?_)
  refine wp_go (f' := (28, [.ref 28, .int (nI 1), .int x, .retAddr 0, .retAddr 0, .retAddr 0], [.long (-2)], MW A B F sw, 0, 0)) 1 rfl ?_
  exact wp_lret rfl
end MM
