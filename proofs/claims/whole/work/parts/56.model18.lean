/-- trees of every set, as the reference keeps them -/
def allT (n : Nat) (nb : Nat → Nat) (q : (Nat → Int64) × (Nat → Int64)) : (Nat → Int64) × (Nat → Int64) := forN (fun k q => (vp_updL q.1 (k + 1) (treesN n nb (k + 1) q.2).1, (treesN n nb (k + 1) q.2).2)) (2 ^ n - 1) q
section MM
variable {xs : Nat → Int32} {Ls : Nat} {A : Nat → Nat → Int32} {B : Nat → Nat → Int64} {F : Nat → Int32} {sw : Bool} {n : Nat} {nb : Nat → Nat}
theorem ev_total1 (hM : MI A F n nb) (x : Int32) (hx1 : nI 0 ≤ x) (hx2 : x ≤ nI 10) : mv_Ev xs Ls 5 120 [.ref 28, .int (nI 1), .int x] (MW A B F sw) (some (.long (coN n nb x (B 39, B 38)).2.1), MW A (upB (upB B 39 (coI n nb (B 39, B 38)).1) 38 (coN n nb x (B 39, B 38)).1) F sw, 0, 0) := by
  refine ev_of_wp rfl rfl rfl ?_
  have hn := hM.1
  have hp := pow10 hn
  have hp1 : 1 ≤ 2 ^ n := Nat.one_le_two_pow
  have hal := all_lt hn
  refine wp_go (f' := (4, [.ref 28, .int (nI 1), .int x, .retAddr 0, .retAddr 0, .retAddr 0], [.int (nI 13), .int (nI 0), .int (nI 1)], MW A B F sw, 0, 0)) 3 rfl ?_
  refine wp_call rfl rfl rfl (ev_up (ev_isIn (nI 1) (nI 0) (nI 13) _) (by decide)) ?_
  refine wp_eq (f' := (7, [.ref 28, .int (nI 1), .int x, .retAddr 0, .retAddr 0, .retAddr 0], [.int (bI (decide ((nI 0) ≤ (nI 1)) && decide ((nI 1) ≤ (nI 13))))], MW A B F sw, 0, 0)) rfl ?_
  refine wp_go (f' := ((if (bI (decide ((nI 0) ≤ (nI 1)) && decide ((nI 1) ≤ (nI 13)))) = 0 then 25 else 10), [.ref 28, .int (nI 1), .int x, .retAddr 0, .retAddr 0, .retAddr 0], [], MW A B F sw, 0, 0)) 1 rfl ?_
  refine wp_ite (fun h9 => absurd h9 (by decide : ¬ bI (decide ((nI 0) ≤ (nI 1)) && decide ((nI 1) ≤ (nI 13))) = 0)) (fun _ => ?_)
  refine wp_go (f' := ((if ¬ (nI 1) = (nI 1) then 29 else 15), [.ref 28, .int (nI 1), .int x, .retAddr 0, .retAddr 0, .retAddr 0], [], MW A B F sw, 0, 0)) 3 rfl ?_
  refine wp_ite (fun h9 => absurd h9 (fun h8 => h8 rfl : ¬ ¬ nI 1 = nI 1)) (fun _ => ?_)
  refine wp_go (f' := (19, [.ref 28, .int (nI 1), .int x, .retAddr 0, .retAddr 0, .retAddr 0], [.int (nI 10), .int (nI 0), .int x], MW A B F sw, 0, 0)) 3 rfl ?_
  refine wp_call rfl rfl rfl (ev_up (ev_isIn x (nI 0) (nI 10) _) (by decide)) ?_
  refine wp_eq (f' := (22, [.ref 28, .int (nI 1), .int x, .retAddr 0, .retAddr 0, .retAddr 0], [.int (bI (decide ((nI 0) ≤ x) && decide (x ≤ (nI 10))))], MW A B F sw, 0, 0)) rfl ?_
  refine wp_go (f' := ((if ¬ (bI (decide ((nI 0) ≤ x) && decide (x ≤ (nI 10)))) = 0 then 29 else 25), [.ref 28, .int (nI 1), .int x, .retAddr 0, .retAddr 0, .retAddr 0], [], MW A B F sw, 0, 0)) 1 rfl ?_
  refine wp_ite (fun _ => ?_) (fun h9 => absurd (by simp [hx1, hx2, bIT, nI1]) h9)
  refine wp_go (f' := (102, [.ref 28, .int (nI 1), .int x, .long 0, .retAddr 0, .retAddr 0], [.int x, .ref 28], MW A B F sw, 0, 0)) 6 rfl ?_
  refine wp_call rfl rfl rfl (ev_up (ev_colours hM x) (by decide)) ?_
  refine wp_eq (f' := (105, [.ref 28, .int (nI 1), .int x, .long 0, .retAddr 0, .retAddr 0], [.long ((coN n nb x (B 39, B 38)).2.1)], MW A (upB (upB B 39 (coI n nb (B 39, B 38)).1) 38 (coN n nb x (B 39, B 38)).1) F sw, 0, 0)) rfl ?_
  exact wp_lret rfl
theorem ev_total5 (hM : MI A F n nb) (y : Int32) (h2 : 3 ≤ n) : mv_Ev xs Ls 5 120 [.ref 28, .int (nI 5), .int y] (MW A B F sw) (some (.long ((rwN n nb true (B 40)).2 / 2)), MW A (upB B 40 (rwN n nb true (B 40)).1) F sw, 0, 0) := by
  refine ev_of_wp rfl rfl rfl ?_
  have hn := hM.1
  have hp := pow10 hn
  have hp1 : 1 ≤ 2 ^ n := Nat.one_le_two_pow
  have hal := all_lt hn
  refine wp_go (f' := (4, [.ref 28, .int (nI 5), .int y, .retAddr 0, .retAddr 0, .retAddr 0], [.int (nI 13), .int (nI 0), .int (nI 5)], MW A B F sw, 0, 0)) 3 rfl ?_
  refine wp_call rfl rfl rfl (ev_up (ev_isIn (nI 5) (nI 0) (nI 13) _) (by decide)) ?_
  refine wp_eq (f' := (7, [.ref 28, .int (nI 5), .int y, .retAddr 0, .retAddr 0, .retAddr 0], [.int (bI (decide ((nI 0) ≤ (nI 5)) && decide ((nI 5) ≤ (nI 13))))], MW A B F sw, 0, 0)) rfl ?_
  refine wp_go (f' := ((if (bI (decide ((nI 0) ≤ (nI 5)) && decide ((nI 5) ≤ (nI 13)))) = 0 then 25 else 10), [.ref 28, .int (nI 5), .int y, .retAddr 0, .retAddr 0, .retAddr 0], [], MW A B F sw, 0, 0)) 1 rfl ?_
  refine wp_ite (fun h9 => absurd h9 (by decide : ¬ bI (decide ((nI 0) ≤ (nI 5)) && decide ((nI 5) ≤ (nI 13))) = 0)) (fun _ => ?_)
  refine wp_go (f' := ((if ¬ (nI 5) = (nI 1) then 29 else 15), [.ref 28, .int (nI 5), .int y, .retAddr 0, .retAddr 0, .retAddr 0], [], MW A B F sw, 0, 0)) 3 rfl ?_
  refine wp_ite (fun _ => ?_) (fun h9 => absurd (by decide : ¬ nI 5 = nI 1) h9)
  refine wp_go (f' := (122, [.ref 28, .int (nI 5), .int y, .long 0, .retAddr 0, .retAddr 0], [.int (F 6)], MW A B F sw, 0, 0)) 6 rfl ?_
  rw [hM.2.1]
  refine wp_go (f' := ((if (nI 3) ≤ (nI n) then 130 else 126), [.ref 28, .int (nI 5), .int y, .long 0, .retAddr 0, .retAddr 0], [], MW A B F sw, 0, 0)) 2 rfl ?_
  refine wp_ite (fun _ => ?_) (fun h9 => absurd (nI_le (a := 3) (b := n) (by omega) (by omega)) h9)
  refine wp_go (f' := (132, [.ref 28, .int (nI 5), .int y, .long 0, .retAddr 0, .retAddr 0], [.int (nI 1), .ref 28], MW A B F sw, 0, 0)) 2 rfl ?_
  refine wp_call rfl rfl rfl (ev_up (ev_ways1 hM (by omega)) (by decide)) ?_
  refine wp_eq (f' := (135, [.ref 28, .int (nI 5), .int y, .long 0, .retAddr 0, .retAddr 0], [.long ((rwN n nb true (B 40)).2 / 2)], MW A (upB B 40 (rwN n nb true (B 40)).1) F sw, 0, 0)) rfl ?_
  exact wp_lret rfl
theorem ev_total5z (hM : MI A F n nb) (y : Int32) (h2 : n < 3) : mv_Ev xs Ls 5 120 [.ref 28, .int (nI 5), .int y] (MW A B F sw) (some (.long 0), MW A B F sw, 0, 0) := by
  refine ev_of_wp rfl rfl rfl ?_
  have hn := hM.1
  have hp := pow10 hn
  have hp1 : 1 ≤ 2 ^ n := Nat.one_le_two_pow
  have hal := all_lt hn
  refine wp_go (f' := (4, [.ref 28, .int (nI 5), .int y, .retAddr 0, .retAddr 0, .retAddr 0], [.int (nI 13), .int (nI 0), .int (nI 5)], MW A B F sw, 0, 0)) 3 rfl ?_
  refine wp_call rfl rfl rfl (ev_up (ev_isIn (nI 5) (nI 0) (nI 13) _) (by decide)) ?_
  refine wp_eq (f' := (7, [.ref 28, .int (nI 5), .int y, .retAddr 0, .retAddr 0, .retAddr 0], [.int (bI (decide ((nI 0) ≤ (nI 5)) && decide ((nI 5) ≤ (nI 13))))], MW A B F sw, 0, 0)) rfl ?_
  refine wp_go (f' := ((if (bI (decide ((nI 0) ≤ (nI 5)) && decide ((nI 5) ≤ (nI 13)))) = 0 then 25 else 10), [.ref 28, .int (nI 5), .int y, .retAddr 0, .retAddr 0, .retAddr 0], [], MW A B F sw, 0, 0)) 1 rfl ?_
  refine wp_ite (fun h9 => absurd h9 (by decide : ¬ bI (decide ((nI 0) ≤ (nI 5)) && decide ((nI 5) ≤ (nI 13))) = 0)) (fun _ => ?_)
  refine wp_go (f' := ((if ¬ (nI 5) = (nI 1) then 29 else 15), [.ref 28, .int (nI 5), .int y, .retAddr 0, .retAddr 0, .retAddr 0], [], MW A B F sw, 0, 0)) 3 rfl ?_
  refine wp_ite (fun _ => ?_) (fun h9 => absurd (by decide : ¬ nI 5 = nI 1) h9)
  refine wp_go (f' := (122, [.ref 28, .int (nI 5), .int y, .long 0, .retAddr 0, .retAddr 0], [.int (F 6)], MW A B F sw, 0, 0)) 6 rfl ?_
  rw [hM.2.1]
  refine wp_go (f' := ((if (nI 3) ≤ (nI n) then 130 else 126), [.ref 28, .int (nI 5), .int y, .long 0, .retAddr 0, .retAddr 0], [], MW A B F sw, 0, 0)) 2 rfl ?_
  refine wp_ite (fun h9 => absurd h9 (nI_ge (a := n) (b := 3) (by omega) (by omega))) (fun _ => ?_)
  refine wp_go (f' := (135, [.ref 28, .int (nI 5), .int y, .long 0, .retAddr 0, .retAddr 0], [.long 0], MW A B F sw, 0, 0)) 2 rfl ?_
  exact wp_lret rfl
theorem ev_total6 (hM : MI A F n nb) (y : Int32) (h2 : 2 ≤ n) : mv_Ev xs Ls 5 120 [.ref 28, .int (nI 6), .int y] (MW A B F sw) (some (.long ((rwN n nb false (B 40)).2 / 2)), MW A (upB B 40 (rwN n nb false (B 40)).1) F sw, 0, 0) := by
  refine ev_of_wp rfl rfl rfl ?_
  have hn := hM.1
  have hp := pow10 hn
  have hp1 : 1 ≤ 2 ^ n := Nat.one_le_two_pow
  have hal := all_lt hn
  refine wp_go (f' := (4, [.ref 28, .int (nI 6), .int y, .retAddr 0, .retAddr 0, .retAddr 0], [.int (nI 13), .int (nI 0), .int (nI 6)], MW A B F sw, 0, 0)) 3 rfl ?_
  refine wp_call rfl rfl rfl (ev_up (ev_isIn (nI 6) (nI 0) (nI 13) _) (by decide)) ?_
  refine wp_eq (f' := (7, [.ref 28, .int (nI 6), .int y, .retAddr 0, .retAddr 0, .retAddr 0], [.int (bI (decide ((nI 0) ≤ (nI 6)) && decide ((nI 6) ≤ (nI 13))))], MW A B F sw, 0, 0)) rfl ?_
  refine wp_go (f' := ((if (bI (decide ((nI 0) ≤ (nI 6)) && decide ((nI 6) ≤ (nI 13)))) = 0 then 25 else 10), [.ref 28, .int (nI 6), .int y, .retAddr 0, .retAddr 0, .retAddr 0], [], MW A B F sw, 0, 0)) 1 rfl ?_
  refine wp_ite (fun h9 => absurd h9 (by decide : ¬ bI (decide ((nI 0) ≤ (nI 6)) && decide ((nI 6) ≤ (nI 13))) = 0)) (fun _ => ?_)
  refine wp_go (f' := ((if ¬ (nI 6) = (nI 1) then 29 else 15), [.ref 28, .int (nI 6), .int y, .retAddr 0, .retAddr 0, .retAddr 0], [], MW A B F sw, 0, 0)) 3 rfl ?_
  refine wp_ite (fun _ => ?_) (fun h9 => absurd (by decide : ¬ nI 6 = nI 1) h9)
  refine wp_go (f' := (140, [.ref 28, .int (nI 6), .int y, .long 0, .retAddr 0, .retAddr 0], [.int (F 6)], MW A B F sw, 0, 0)) 6 rfl ?_
  rw [hM.2.1]
  refine wp_go (f' := ((if ¬ (nI n) = (nI 1) then 148 else 144), [.ref 28, .int (nI 6), .int y, .long 0, .retAddr 0, .retAddr 0], [], MW A B F sw, 0, 0)) 2 rfl ?_
  refine wp_ite (fun _ => ?_) (fun h9 => absurd (fun h8 => by have h9 := (nI_eq (a := n) (b := 1) (by omega) (by omega)).mp h8; omega) h9)
  refine wp_go (f' := (152, [.ref 28, .int (nI 6), .int y, .long 0, .retAddr 0, .retAddr 0], [.int (F 6)], MW A B F sw, 0, 0)) 2 rfl ?_
  rw [hM.2.1]
  refine wp_go (f' := ((if ¬ (nI n) = 0 then 159 else 155), [.ref 28, .int (nI 6), .int y, .long 0, .retAddr 0, .retAddr 0], [], MW A B F sw, 0, 0)) 1 rfl ?_
  refine wp_ite (fun _ => ?_) (fun h9 => absurd (fun h8 => by have h9 := (nI_eq (a := n) (b := 0) (by omega) (by omega)).mp h8; omega) h9)
  refine wp_go (f' := (161, [.ref 28, .int (nI 6), .int y, .long 0, .retAddr 0, .retAddr 0], [.int (nI 0), .ref 28], MW A B F sw, 0, 0)) 2 rfl ?_
  refine wp_call rfl rfl rfl (ev_up (ev_ways0 hM (by omega)) (by decide)) ?_
  refine wp_eq (f' := (164, [.ref 28, .int (nI 6), .int y, .long 0, .retAddr 0, .retAddr 0], [.long ((rwN n nb false (B 40)).2 / 2)], MW A (upB B 40 (rwN n nb false (B 40)).1) F sw, 0, 0)) rfl ?_
  exact wp_lret rfl
theorem ev_total6a (hM : MI A F n nb) (y : Int32) (h2 : n = 1) : mv_Ev xs Ls 5 120 [.ref 28, .int (nI 6), .int y] (MW A B F sw) (some (.long 1), MW A B F sw, 0, 0) := by
  refine ev_of_wp rfl rfl rfl ?_
  have hn := hM.1
  have hp := pow10 hn
  have hp1 : 1 ≤ 2 ^ n := Nat.one_le_two_pow
  have hal := all_lt hn
  refine wp_go (f' := (4, [.ref 28, .int (nI 6), .int y, .retAddr 0, .retAddr 0, .retAddr 0], [.int (nI 13), .int (nI 0), .int (nI 6)], MW A B F sw, 0, 0)) 3 rfl ?_
  refine wp_call rfl rfl rfl (ev_up (ev_isIn (nI 6) (nI 0) (nI 13) _) (by decide)) ?_
  refine wp_eq (f' := (7, [.ref 28, .int (nI 6), .int y, .retAddr 0, .retAddr 0, .retAddr 0], [.int (bI (decide ((nI 0) ≤ (nI 6)) && decide ((nI 6) ≤ (nI 13))))], MW A B F sw, 0, 0)) rfl ?_
  refine wp_go (f' := ((if (bI (decide ((nI 0) ≤ (nI 6)) && decide ((nI 6) ≤ (nI 13)))) = 0 then 25 else 10), [.ref 28, .int (nI 6), .int y, .retAddr 0, .retAddr 0, .retAddr 0], [], MW A B F sw, 0, 0)) 1 rfl ?_
  refine wp_ite (fun h9 => absurd h9 (by decide : ¬ bI (decide ((nI 0) ≤ (nI 6)) && decide ((nI 6) ≤ (nI 13))) = 0)) (fun _ => ?_)
  refine wp_go (f' := ((if ¬ (nI 6) = (nI 1) then 29 else 15), [.ref 28, .int (nI 6), .int y, .retAddr 0, .retAddr 0, .retAddr 0], [], MW A B F sw, 0, 0)) 3 rfl ?_
  refine wp_ite (fun _ => ?_) (fun h9 => absurd (by decide : ¬ nI 6 = nI 1) h9)
  refine wp_go (f' := (140, [.ref 28, .int (nI 6), .int y, .long 0, .retAddr 0, .retAddr 0], [.int (F 6)], MW A B F sw, 0, 0)) 6 rfl ?_
  rw [hM.2.1]
  refine wp_go (f' := ((if ¬ (nI n) = (nI 1) then 148 else 144), [.ref 28, .int (nI 6), .int y, .long 0, .retAddr 0, .retAddr 0], [], MW A B F sw, 0, 0)) 2 rfl ?_
  refine wp_ite (fun h9 => absurd h9 (fun h8 => h8 (congrArg nI h2))) (fun _ => ?_)
  refine wp_go (f' := (164, [.ref 28, .int (nI 6), .int y, .long 0, .retAddr 0, .retAddr 0], [.long 1], MW A B F sw, 0, 0)) 2 rfl ?_
  exact wp_lret rfl
theorem ev_total6b (hM : MI A F n nb) (y : Int32) (h2 : n = 0) : mv_Ev xs Ls 5 120 [.ref 28, .int (nI 6), .int y] (MW A B F sw) (some (.long 0), MW A B F sw, 0, 0) := by
  refine ev_of_wp rfl rfl rfl ?_
  have hn := hM.1
  have hp := pow10 hn
  have hp1 : 1 ≤ 2 ^ n := Nat.one_le_two_pow
  have hal := all_lt hn
  refine wp_go (f' := (4, [.ref 28, .int (nI 6), .int y, .retAddr 0, .retAddr 0, .retAddr 0], [.int (nI 13), .int (nI 0), .int (nI 6)], MW A B F sw, 0, 0)) 3 rfl ?_
  refine wp_call rfl rfl rfl (ev_up (ev_isIn (nI 6) (nI 0) (nI 13) _) (by decide)) ?_
  refine wp_eq (f' := (7, [.ref 28, .int (nI 6), .int y, .retAddr 0, .retAddr 0, .retAddr 0], [.int (bI (decide ((nI 0) ≤ (nI 6)) && decide ((nI 6) ≤ (nI 13))))], MW A B F sw, 0, 0)) rfl ?_
  refine wp_go (f' := ((if (bI (decide ((nI 0) ≤ (nI 6)) && decide ((nI 6) ≤ (nI 13)))) = 0 then 25 else 10), [.ref 28, .int (nI 6), .int y, .retAddr 0, .retAddr 0, .retAddr 0], [], MW A B F sw, 0, 0)) 1 rfl ?_
  refine wp_ite (fun h9 => absurd h9 (by decide : ¬ bI (decide ((nI 0) ≤ (nI 6)) && decide ((nI 6) ≤ (nI 13))) = 0)) (fun _ => ?_)
  refine wp_go (f' := ((if ¬ (nI 6) = (nI 1) then 29 else 15), [.ref 28, .int (nI 6), .int y, .retAddr 0, .retAddr 0, .retAddr 0], [], MW A B F sw, 0, 0)) 3 rfl ?_
  refine wp_ite (fun _ => ?_) (fun h9 => absurd (by decide : ¬ nI 6 = nI 1) h9)
  refine wp_go (f' := (140, [.ref 28, .int (nI 6), .int y, .long 0, .retAddr 0, .retAddr 0], [.int (F 6)], MW A B F sw, 0, 0)) 6 rfl ?_
  rw [hM.2.1]
  refine wp_go (f' := ((if ¬ (nI n) = (nI 1) then 148 else 144), [.ref 28, .int (nI 6), .int y, .long 0, .retAddr 0, .retAddr 0], [], MW A B F sw, 0, 0)) 2 rfl ?_
  refine wp_ite (fun _ => ?_) (fun h9 => absurd (by rw [h2]; decide) h9)
  refine wp_go (f' := (152, [.ref 28, .int (nI 6), .int y, .long 0, .retAddr 0, .retAddr 0], [.int (F 6)], MW A B F sw, 0, 0)) 2 rfl ?_
  rw [hM.2.1]
  refine wp_go (f' := ((if ¬ (nI n) = 0 then 159 else 155), [.ref 28, .int (nI 6), .int y, .long 0, .retAddr 0, .retAddr 0], [], MW A B F sw, 0, 0)) 1 rfl ?_
  refine wp_ite (fun h9 => absurd h9 (fun h8 => h8 (congrArg nI h2))) (fun _ => ?_)
  refine wp_go (f' := (164, [.ref 28, .int (nI 6), .int y, .long 0, .retAddr 0, .retAddr 0], [.long 0], MW A B F sw, 0, 0)) 2 rfl ?_
  exact wp_lret rfl
theorem ev_total7 (hM : MI A F n nb) (y : Int32) (h2 : ¬ n = 0) : mv_Ev xs Ls 5 120 [.ref 28, .int (nI 7), .int y] (MW A B F sw) (some (.long (treesN n nb (2 ^ n - 1) (B 41)).1), MW A (upB B 41 (treesN n nb (2 ^ n - 1) (B 41)).2) F sw, 0, 0) := by
  refine ev_of_wp rfl rfl rfl ?_
  have hn := hM.1
  have hp := pow10 hn
  have hp1 : 1 ≤ 2 ^ n := Nat.one_le_two_pow
  have hal := all_lt hn
  refine wp_go (f' := (4, [.ref 28, .int (nI 7), .int y, .retAddr 0, .retAddr 0, .retAddr 0], [.int (nI 13), .int (nI 0), .int (nI 7)], MW A B F sw, 0, 0)) 3 rfl ?_
  refine wp_call rfl rfl rfl (ev_up (ev_isIn (nI 7) (nI 0) (nI 13) _) (by decide)) ?_
  refine wp_eq (f' := (7, [.ref 28, .int (nI 7), .int y, .retAddr 0, .retAddr 0, .retAddr 0], [.int (bI (decide ((nI 0) ≤ (nI 7)) && decide ((nI 7) ≤ (nI 13))))], MW A B F sw, 0, 0)) rfl ?_
  refine wp_go (f' := ((if (bI (decide ((nI 0) ≤ (nI 7)) && decide ((nI 7) ≤ (nI 13)))) = 0 then 25 else 10), [.ref 28, .int (nI 7), .int y, .retAddr 0, .retAddr 0, .retAddr 0], [], MW A B F sw, 0, 0)) 1 rfl ?_
  refine wp_ite (fun h9 => absurd h9 (by decide : ¬ bI (decide ((nI 0) ≤ (nI 7)) && decide ((nI 7) ≤ (nI 13))) = 0)) (fun _ => ?_)
  refine wp_go (f' := ((if ¬ (nI 7) = (nI 1) then 29 else 15), [.ref 28, .int (nI 7), .int y, .retAddr 0, .retAddr 0, .retAddr 0], [], MW A B F sw, 0, 0)) 3 rfl ?_
  refine wp_ite (fun _ => ?_) (fun h9 => absurd (by decide : ¬ nI 7 = nI 1) h9)
  refine wp_go (f' := (169, [.ref 28, .int (nI 7), .int y, .long 0, .retAddr 0, .retAddr 0], [.int (F 6)], MW A B F sw, 0, 0)) 6 rfl ?_
  rw [hM.2.1]
  refine wp_go (f' := ((if ¬ (nI n) = 0 then 176 else 172), [.ref 28, .int (nI 7), .int y, .long 0, .retAddr 0, .retAddr 0], [], MW A B F sw, 0, 0)) 1 rfl ?_
  refine wp_ite (fun _ => ?_) (fun h9 => absurd (fun h8 => h2 ((nI_eq (a := n) (b := 0) (by omega) (by omega)).mp h8)) h9)
  refine wp_go (f' := (178, [.ref 28, .int (nI 7), .int y, .long 0, .retAddr 0, .retAddr 0], [.ref 28, .ref 28], MW A B F sw, 0, 0)) 2 rfl ?_
  refine wp_call rfl rfl rfl (ev_up (ev_all hM) (by decide)) ?_
  refine wp_eq (f' := (181, [.ref 28, .int (nI 7), .int y, .long 0, .retAddr 0, .retAddr 0], [.int (nI (2 ^ n - 1)), .ref 28], MW A B F sw, 0, 0)) rfl ?_
  refine wp_call rfl rfl rfl (ev_up (ev_trees hM (s := 2 ^ n - 1) (by omega)) (by decide)) ?_
  refine wp_eq (f' := (184, [.ref 28, .int (nI 7), .int y, .long 0, .retAddr 0, .retAddr 0], [.long ((treesN n nb (2 ^ n - 1) (B 41)).1)], MW A (upB B 41 (treesN n nb (2 ^ n - 1) (B 41)).2) F sw, 0, 0)) rfl ?_
  exact wp_lret rfl
theorem ev_total7z (hM : MI A F n nb) (y : Int32) (h2 : n = 0) : mv_Ev xs Ls 5 120 [.ref 28, .int (nI 7), .int y] (MW A B F sw) (some (.long 0), MW A B F sw, 0, 0) := by
  refine ev_of_wp rfl rfl rfl ?_
  have hn := hM.1
  have hp := pow10 hn
  have hp1 : 1 ≤ 2 ^ n := Nat.one_le_two_pow
  have hal := all_lt hn
  refine wp_go (f' := (4, [.ref 28, .int (nI 7), .int y, .retAddr 0, .retAddr 0, .retAddr 0], [.int (nI 13), .int (nI 0), .int (nI 7)], MW A B F sw, 0, 0)) 3 rfl ?_
  refine wp_call rfl rfl rfl (ev_up (ev_isIn (nI 7) (nI 0) (nI 13) _) (by decide)) ?_
  refine wp_eq (f' := (7, [.ref 28, .int (nI 7), .int y, .retAddr 0, .retAddr 0, .retAddr 0], [.int (bI (decide ((nI 0) ≤ (nI 7)) && decide ((nI 7) ≤ (nI 13))))], MW A B F sw, 0, 0)) rfl ?_
  refine wp_go (f' := ((if (bI (decide ((nI 0) ≤ (nI 7)) && decide ((nI 7) ≤ (nI 13)))) = 0 then 25 else 10), [.ref 28, .int (nI 7), .int y, .retAddr 0, .retAddr 0, .retAddr 0], [], MW A B F sw, 0, 0)) 1 rfl ?_
  refine wp_ite (fun h9 => absurd h9 (by decide : ¬ bI (decide ((nI 0) ≤ (nI 7)) && decide ((nI 7) ≤ (nI 13))) = 0)) (fun _ => ?_)
  refine wp_go (f' := ((if ¬ (nI 7) = (nI 1) then 29 else 15), [.ref 28, .int (nI 7), .int y, .retAddr 0, .retAddr 0, .retAddr 0], [], MW A B F sw, 0, 0)) 3 rfl ?_
  refine wp_ite (fun _ => ?_) (fun h9 => absurd (by decide : ¬ nI 7 = nI 1) h9)
  refine wp_go (f' := (169, [.ref 28, .int (nI 7), .int y, .long 0, .retAddr 0, .retAddr 0], [.int (F 6)], MW A B F sw, 0, 0)) 6 rfl ?_
  rw [hM.2.1]
  refine wp_go (f' := ((if ¬ (nI n) = 0 then 176 else 172), [.ref 28, .int (nI 7), .int y, .long 0, .retAddr 0, .retAddr 0], [], MW A B F sw, 0, 0)) 1 rfl ?_
  refine wp_ite (fun h9 => absurd h9 (fun h8 => h8 (congrArg nI h2))) (fun _ => ?_)
  refine wp_go (f' := (184, [.ref 28, .int (nI 7), .int y, .long 0, .retAddr 0, .retAddr 0], [.long 0], MW A B F sw, 0, 0)) 2 rfl ?_
  exact wp_lret rfl
theorem ev_total8 (hM : MI A F n nb) (y : Int32)  : mv_Ev xs Ls 5 120 [.ref 28, .int (nI 8), .int y] (MW A B F sw) (some (.long ((tabN (prodG (allT n nb (B 39, B 41)).1) n (vp_updL (B 38) 0 1)) (2 ^ n - 1))), MW A (upB (upB (upB B 39 (allT n nb (B 39, B 41)).1) 41 (allT n nb (B 39, B 41)).2) 38 (tabN (prodG (allT n nb (B 39, B 41)).1) n (vp_updL (B 38) 0 1))) F sw, 0, 0) := by
  refine ev_of_wp rfl rfl rfl ?_
  have hn := hM.1
  have hp := pow10 hn
  have hp1 : 1 ≤ 2 ^ n := Nat.one_le_two_pow
  have hal := all_lt hn
  refine wp_go (f' := (4, [.ref 28, .int (nI 8), .int y, .retAddr 0, .retAddr 0, .retAddr 0], [.int (nI 13), .int (nI 0), .int (nI 8)], MW A B F sw, 0, 0)) 3 rfl ?_
  refine wp_call rfl rfl rfl (ev_up (ev_isIn (nI 8) (nI 0) (nI 13) _) (by decide)) ?_
  refine wp_eq (f' := (7, [.ref 28, .int (nI 8), .int y, .retAddr 0, .retAddr 0, .retAddr 0], [.int (bI (decide ((nI 0) ≤ (nI 8)) && decide ((nI 8) ≤ (nI 13))))], MW A B F sw, 0, 0)) rfl ?_
  refine wp_go (f' := ((if (bI (decide ((nI 0) ≤ (nI 8)) && decide ((nI 8) ≤ (nI 13)))) = 0 then 25 else 10), [.ref 28, .int (nI 8), .int y, .retAddr 0, .retAddr 0, .retAddr 0], [], MW A B F sw, 0, 0)) 1 rfl ?_
  refine wp_ite (fun h9 => absurd h9 (by decide : ¬ bI (decide ((nI 0) ≤ (nI 8)) && decide ((nI 8) ≤ (nI 13))) = 0)) (fun _ => ?_)
  refine wp_go (f' := ((if ¬ (nI 8) = (nI 1) then 29 else 15), [.ref 28, .int (nI 8), .int y, .retAddr 0, .retAddr 0, .retAddr 0], [], MW A B F sw, 0, 0)) 3 rfl ?_
  refine wp_ite (fun _ => ?_) (fun h9 => absurd (by decide : ¬ nI 8 = nI 1) h9)
  refine wp_go (f' := (188, [.ref 28, .int (nI 8), .int y, .long 0, .retAddr 0, .int (nI 1)], [], MW A B F sw, 0, 0)) 6 rfl ?_
  refine wp_eq (f' := (188, [.ref 28, .int (nI 8), .int y, .long 0, .retAddr 0, .int (nI 1)], [], MW A (upB (upB B 39 (B 39)) 41 (B 41)) F sw, 0, 0)) rfl ?_
  refine for_ind (P := fun (k : Nat) (q : (Nat → Int64) × (Nat → Int64)) => mv_Wp xs Ls 4 6 false (some .long) mv_c120 (188, [.ref 28, .int (nI 8), .int y, .long 0, .retAddr 0, .int (nI (k + 1))], [], MW A (upB (upB B 39 q.1) 41 q.2) F sw, 0, 0) (some (.long ((tabN (prodG (allT n nb (B 39, B 41)).1) n (vp_updL (B 38) 0 1)) (2 ^ n - 1))), MW A (upB (upB (upB B 39 (allT n nb (B 39, B 41)).1) 41 (allT n nb (B 39, B 41)).2) 38 (tabN (prodG (allT n nb (B 39, B 41)).1) n (vp_updL (B 38) 0 1))) F sw, 0, 0)) (f := fun k q => (vp_updL q.1 (k + 1) (treesN n nb (k + 1) q.2).1, (treesN n nb (k + 1) q.2).2)) (n := 2 ^ n - 1) ?_ (2 ^ n - 1) (B 39, B 41) (Nat.le_refl _) ?_
  · intro k q hk ih
    refine wp_go (f' := (191, [.ref 28, .int (nI 8), .int y, .long 0, .retAddr 0, .int (nI (k + 1))], [.ref 28, .int (nI (k + 1))], MW A (upB (upB B 39 q.1) 41 q.2) F sw, 0, 0)) 2 rfl ?_
    refine wp_call rfl rfl rfl (ev_up (ev_all hM) (by decide)) ?_
    refine wp_eq (f' := (194, [.ref 28, .int (nI 8), .int y, .long 0, .retAddr 0, .int (nI (k + 1))], [.int (nI (2 ^ n - 1)), .int (nI (k + 1))], MW A (upB (upB B 39 q.1) 41 q.2) F sw, 0, 0)) rfl ?_
    refine wp_go (f' := ((if (nI (2 ^ n - 1)) < (nI (k + 1)) then 216 else 197), [.ref 28, .int (nI 8), .int y, .long 0, .retAddr 0, .int (nI (k + 1))], [], MW A (upB (upB B 39 q.1) 41 q.2) F sw, 0, 0)) 1 rfl ?_
    refine wp_ite (fun h9 => absurd h9 (nI_nlt (by omega) (by omega))) (fun _ => ?_)
    refine wp_go (f' := (206, [.ref 28, .int (nI 8), .int y, .long 0, .retAddr 0, .int (nI (k + 1))], [.int (nI (k + 1)), .ref 28, .int (nI (k + 1)), .ref 39], MW A (upB (upB B 39 q.1) 41 q.2) F sw, 0, 0)) 5 rfl ?_
    refine wp_call rfl rfl rfl (ev_up (ev_trees (B := upB (upB B 39 q.1) 41 q.2) hM (s := k + 1) (by omega)) (by decide)) ?_
    refine wp_eq (f' := (209, [.ref 28, .int (nI 8), .int y, .long 0, .retAddr 0, .int (nI (k + 1))], [.long ((treesN n nb (k + 1) q.2).1), .int (nI (k + 1)), .ref 39], MW A (upB (upB B 39 q.1) 41 (treesN n nb (k + 1) q.2).2) F sw, 0, 0)) rfl ?_
    refine wp_last rfl rfl (by omega) (by decide) ?_
    refine wp_eq (f' := (210, [.ref 28, .int (nI 8), .int y, .long 0, .retAddr 0, .int (nI (k + 1))], [], MW A (upB (upB B 41 (treesN n nb (k + 1) q.2).2) 39 (vp_updL q.1 (k + 1) ((treesN n nb (k + 1) q.2).1))) F sw, 0, 0)) rfl ?_
    refine wp_go (f' := (213, [.ref 28, .int (nI 8), .int y, .long 0, .retAddr 0, .int ((nI (k + 1)) + 1)], [], MW A (upB (upB B 41 (treesN n nb (k + 1) q.2).2) 39 (vp_updL q.1 (k + 1) ((treesN n nb (k + 1) q.2).1))) F sw, 0, 0)) 1 rfl ?_
    rw [nI_1]
    refine wp_go (f' := (188, [.ref 28, .int (nI 8), .int y, .long 0, .retAddr 0, .int (nI ((k + 1) + 1))], [], MW A (upB (upB B 41 (treesN n nb (k + 1) q.2).2) 39 (vp_updL q.1 (k + 1) ((treesN n nb (k + 1) q.2).1))) F sw, 0, 0)) 1 rfl ?_
    exact ih
  · skip
    refine wp_go (f' := (191, [.ref 28, .int (nI 8), .int y, .long 0, .retAddr 0, .int (nI (2 ^ n - 1 + 1))], [.ref 28, .int (nI (2 ^ n - 1 + 1))], MW A (upB (upB B 39 (allT n nb (B 39, B 41)).1) 41 (allT n nb (B 39, B 41)).2) F sw, 0, 0)) 2 rfl ?_
    refine wp_call rfl rfl rfl (ev_up (ev_all hM) (by decide)) ?_
    refine wp_eq (f' := (194, [.ref 28, .int (nI 8), .int y, .long 0, .retAddr 0, .int (nI (2 ^ n - 1 + 1))], [.int (nI (2 ^ n - 1)), .int (nI (2 ^ n - 1 + 1))], MW A (upB (upB B 39 (allT n nb (B 39, B 41)).1) 41 (allT n nb (B 39, B 41)).2) F sw, 0, 0)) rfl ?_
    refine wp_go (f' := ((if (nI (2 ^ n - 1)) < (nI (2 ^ n - 1 + 1)) then 216 else 197), [.ref 28, .int (nI 8), .int y, .long 0, .retAddr 0, .int (nI (2 ^ n - 1 + 1))], [], MW A (upB (upB B 39 (allT n nb (B 39, B 41)).1) 41 (allT n nb (B 39, B 41)).2) F sw, 0, 0)) 1 rfl ?_
    refine wp_ite (fun _ => ?_) (fun h9 => absurd (nI_lt (by omega) (by omega)) h9)
    refine wp_go (f' := (217, [.ref 28, .int (nI 8), .int y, .long 0, .retAddr 0, .int (nI (2 ^ n - 1 + 1))], [.ref 28], MW A (upB (upB B 39 (allT n nb (B 39, B 41)).1) 41 (allT n nb (B 39, B 41)).2) F sw, 0, 0)) 1 rfl ?_
    refine wp_call rfl rfl rfl (ev_up (ev_products (B := upB (upB B 39 (allT n nb (B 39, B 41)).1) 41 (allT n nb (B 39, B 41)).2) hM) (by decide)) ?_
    refine wp_eq (f' := (220, [.ref 28, .int (nI 8), .int y, .long 0, .retAddr 0, .int (nI (2 ^ n - 1 + 1))], [.long ((tabN (prodG (allT n nb (B 39, B 41)).1) n (vp_updL (B 38) 0 1)) (2 ^ n - 1))], MW A (upB (upB (upB B 39 (allT n nb (B 39, B 41)).1) 41 (allT n nb (B 39, B 41)).2) 38 (tabN (prodG (allT n nb (B 39, B 41)).1) n (vp_updL (B 38) 0 1))) F sw, 0, 0)) rfl ?_
    exact wp_lret rfl
end MM
