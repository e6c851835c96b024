section CC
variable {xs : Nat → Int32} {Ls : Nat} {A : Nat → Nat → Int32} {B : Nat → Nat → Int64} {F : Nat → Int32} {sw : Bool} {n : Nat} {nb : Nat → Nat}
theorem lq_cTell0 (hC : CI A F n nb) (hR : RI A n nb) (x : Int32)  : mv_Wp xs Ls 5 0 false (some .long) mv_c57 (7, [.ref 24, .int (nI 0), .int x], [], MW A B F sw, 0, 0) (some (.long (apartC n nb)), MW A B F sw, 0, 0) := by
  have hn := hC.1
  have hp := pow10 hn
  have hp1 : 1 ≤ 2 ^ n := Nat.one_le_two_pow
  have hal := all_lt hn
  refine wp_go (f' := (77, [.ref 24, .int (nI 0), .int x], [.ref 24], MW A B F sw, 0, 0)) 3 rfl ?_
  refine wp_call rfl rfl rfl (ev_up (ev_cApart hC hR) (by decide)) ?_
  refine wp_eq (f' := (80, [.ref 24, .int (nI 0), .int x], [.long (apartC n nb)], MW A B F sw, 0, 0)) rfl ?_
  exact wp_lret rfl
theorem ev_cTell0 (hC : CI A F n nb) (hZ : CZ A) (hco : F 3 = F 2 → RI A n nb) (x : Int32)  : ∃ r4 r5 r6 : Nat → Int32, mv_Ev xs Ls 6 57 [.ref 24, .int (nI 0), .int x] (MW A B F sw) (some (.long (apartC n nb)), MW (upA (upA (upA A 4 r4) 5 r5) 6 r6) B (upF F 3 (F 2)) sw, 0, 0) ∧ RI (upA (upA (upA A 4 r4) 5 r5) 6 r6) n nb ∧ CZ (upA (upA (upA A 4 r4) 5 r5) 6 r6) := by
  obtain ⟨r4, r5, r6, hev, hR, hZ2⟩ := ev_rows_any (xs := xs) (Ls := Ls) (B := B) (sw := sw) hC hZ hco
  refine ⟨r4, r5, r6, ?_, hR, hZ2⟩
  refine ev_of_wp rfl rfl rfl ?_
  refine wp_go (f' := (4, [.ref 24, .int (nI 0), .int x], [.ref 1], MW A B F sw, 0, 0)) 2 rfl ?_
  refine wp_call rfl rfl rfl (ev_up hev (by decide)) ?_
  exact lq_cTell0 (A := (upA (upA (upA A 4 r4) 5 r5) 6 r6)) (F := upF F 3 (F 2)) hC hR x 
theorem ev_bTotal0 (hC : CI A F n nb) (hZ : CZ A) (hco : F 3 = F 2 → RI A n nb) (x : Int32)  : ∃ r4 r5 r6 : Nat → Int32, mv_Ev xs Ls 7 56 [.ref 0, .int (nI 0), .int x] (MW A B F sw) (some (.long (apartC n nb)), MW (upA (upA (upA A 4 r4) 5 r5) 6 r6) B (upF F 3 (F 2)) sw, 0, 0) ∧ RI (upA (upA (upA A 4 r4) 5 r5) 6 r6) n nb ∧ CZ (upA (upA (upA A 4 r4) 5 r5) 6 r6) := by
  obtain ⟨r4, r5, r6, hev, hR, hZ2⟩ := ev_cTell0 (xs := xs) (Ls := Ls) (B := B) (sw := sw) hC hZ hco x 
  refine ⟨r4, r5, r6, ?_, hR, hZ2⟩
  refine ev_of_wp rfl rfl rfl ?_
  refine wp_go (f' := ((if (nI 0) < 0 then 10 else 4), [.ref 0, .int (nI 0), .int x], [], MW A B F sw, 0, 0)) 2 rfl ?_
  refine wp_ite (fun h9 => absurd h9 (by decide)) (fun _ => ?_)
  refine wp_go (f' := ((if (nI 0) < (nI 14) then 14 else 10), [.ref 0, .int (nI 0), .int x], [], MW A B F sw, 0, 0)) 3 rfl ?_
  refine wp_ite (fun _ => ?_) (fun h9 => absurd (by decide) h9)
  refine wp_go (f' := ((if ¬ (nI 0) = (nI 1) then 33 else 19), [.ref 0, .int (nI 0), .int x], [], MW A B F sw, 0, 0)) 3 rfl ?_
  refine wp_ite (fun _ => ?_) (fun h9 => absurd (by decide) h9)
  refine wp_go (f' := (39, [.ref 0, .int (nI 0), .int x], [.int x, .int (nI 0), .ref 24], MW A B F sw, 0, 0)) 4 rfl ?_
  refine wp_call rfl rfl rfl (ev_up hev (by decide)) ?_
  refine wp_eq (f' := (42, [.ref 0, .int (nI 0), .int x], [.long (apartC n nb)], MW (upA (upA (upA A 4 r4) 5 r5) 6 r6) B (upF F 3 (F 2)) sw, 0, 0)) rfl ?_
  exact wp_lret rfl
theorem lq_cTell1 (hC : CI A F n nb) (hR : RI A n nb) (x : Int32)  : mv_Wp xs Ls 5 0 false (some .long) mv_c57 (7, [.ref 24, .int (nI 1), .int x], [], MW A B F sw, 0, 0) (some (.long ((colN n nb x (B 25, B 26) sw).2.1)), MW A (upB (upB B 25 (colN n nb x (B 25, B 26) sw).1.1) 26 (colN n nb x (B 25, B 26) sw).1.2) F (colN n nb x (B 25, B 26) sw).2.2, 0, 0) := by
  have hn := hC.1
  have hp := pow10 hn
  have hp1 : 1 ≤ 2 ^ n := Nat.one_le_two_pow
  have hal := all_lt hn
  refine wp_go (f' := (83, [.ref 24, .int (nI 1), .int x], [.int x, .ref 24], MW A B F sw, 0, 0)) 4 rfl ?_
  refine wp_call rfl rfl rfl (ev_up (ev_cCol hC hR x) (by decide)) ?_
  refine wp_eq (f' := (86, [.ref 24, .int (nI 1), .int x], [.long ((colN n nb x (B 25, B 26) sw).2.1)], MW A (upB (upB B 25 (colN n nb x (B 25, B 26) sw).1.1) 26 (colN n nb x (B 25, B 26) sw).1.2) F (colN n nb x (B 25, B 26) sw).2.2, 0, 0)) rfl ?_
  exact wp_lret rfl
theorem ev_cTell1 (hC : CI A F n nb) (hZ : CZ A) (hco : F 3 = F 2 → RI A n nb) (x : Int32)  : ∃ r4 r5 r6 : Nat → Int32, mv_Ev xs Ls 6 57 [.ref 24, .int (nI 1), .int x] (MW A B F sw) (some (.long ((colN n nb x (B 25, B 26) sw).2.1)), MW (upA (upA (upA A 4 r4) 5 r5) 6 r6) (upB (upB B 25 (colN n nb x (B 25, B 26) sw).1.1) 26 (colN n nb x (B 25, B 26) sw).1.2) (upF F 3 (F 2)) (colN n nb x (B 25, B 26) sw).2.2, 0, 0) ∧ RI (upA (upA (upA A 4 r4) 5 r5) 6 r6) n nb ∧ CZ (upA (upA (upA A 4 r4) 5 r5) 6 r6) := by
  obtain ⟨r4, r5, r6, hev, hR, hZ2⟩ := ev_rows_any (xs := xs) (Ls := Ls) (B := B) (sw := sw) hC hZ hco
  refine ⟨r4, r5, r6, ?_, hR, hZ2⟩
  refine ev_of_wp rfl rfl rfl ?_
  refine wp_go (f' := (4, [.ref 24, .int (nI 1), .int x], [.ref 1], MW A B F sw, 0, 0)) 2 rfl ?_
  refine wp_call rfl rfl rfl (ev_up hev (by decide)) ?_
  exact lq_cTell1 (A := (upA (upA (upA A 4 r4) 5 r5) 6 r6)) (F := upF F 3 (F 2)) hC hR x 
theorem ev_bTotal1 (hC : CI A F n nb) (hZ : CZ A) (hco : F 3 = F 2 → RI A n nb) (x : Int32)  (hx : ¬ x < 0) (hx2 : x ≤ nI 10) : ∃ r4 r5 r6 : Nat → Int32, mv_Ev xs Ls 7 56 [.ref 0, .int (nI 1), .int x] (MW A B F sw) (some (.long ((colN n nb x (B 25, B 26) sw).2.1)), MW (upA (upA (upA A 4 r4) 5 r5) 6 r6) (upB (upB B 25 (colN n nb x (B 25, B 26) sw).1.1) 26 (colN n nb x (B 25, B 26) sw).1.2) (upF F 3 (F 2)) (colN n nb x (B 25, B 26) sw).2.2, 0, 0) ∧ RI (upA (upA (upA A 4 r4) 5 r5) 6 r6) n nb ∧ CZ (upA (upA (upA A 4 r4) 5 r5) 6 r6) := by
  obtain ⟨r4, r5, r6, hev, hR, hZ2⟩ := ev_cTell1 (xs := xs) (Ls := Ls) (B := B) (sw := sw) hC hZ hco x 
  refine ⟨r4, r5, r6, ?_, hR, hZ2⟩
  refine ev_of_wp rfl rfl rfl ?_
  refine wp_go (f' := ((if (nI 1) < 0 then 10 else 4), [.ref 0, .int (nI 1), .int x], [], MW A B F sw, 0, 0)) 2 rfl ?_
  refine wp_ite (fun h9 => absurd h9 (by decide)) (fun _ => ?_)
  refine wp_go (f' := ((if (nI 1) < (nI 14) then 14 else 10), [.ref 0, .int (nI 1), .int x], [], MW A B F sw, 0, 0)) 3 rfl ?_
  refine wp_ite (fun _ => ?_) (fun h9 => absurd (by decide) h9)
  refine wp_go (f' := ((if ¬ (nI 1) = (nI 1) then 33 else 19), [.ref 0, .int (nI 1), .int x], [], MW A B F sw, 0, 0)) 3 rfl ?_
  refine wp_ite (fun h9 => absurd h9 (fun h => h rfl)) (fun _ => ?_)
  refine wp_go (f' := ((if x < 0 then 29 else 23), [.ref 0, .int (nI 1), .int x], [], MW A B F sw, 0, 0)) 2 rfl ?_
  refine wp_ite (fun h9 => absurd h9 hx) (fun _ => ?_)
  refine wp_go (f' := ((if x ≤ (nI 10) then 33 else 29), [.ref 0, .int (nI 1), .int x], [], MW A B F sw, 0, 0)) 3 rfl ?_
  refine wp_ite (fun _ => ?_) (fun h9 => absurd hx2 h9)
  refine wp_go (f' := (39, [.ref 0, .int (nI 1), .int x], [.int x, .int (nI 1), .ref 24], MW A B F sw, 0, 0)) 4 rfl ?_
  refine wp_call rfl rfl rfl (ev_up hev (by decide)) ?_
  refine wp_eq (f' := (42, [.ref 0, .int (nI 1), .int x], [.long ((colN n nb x (B 25, B 26) sw).2.1)], MW (upA (upA (upA A 4 r4) 5 r5) 6 r6) (upB (upB B 25 (colN n nb x (B 25, B 26) sw).1.1) 26 (colN n nb x (B 25, B 26) sw).1.2) (upF F 3 (F 2)) (colN n nb x (B 25, B 26) sw).2.2, 0, 0)) rfl ?_
  exact wp_lret rfl
theorem lq_cTell2 (hC : CI A F n nb) (hR : RI A n nb) (x : Int32)  : mv_Wp xs Ls 5 0 false (some .long) mv_c57 (7, [.ref 24, .int (nI 2), .int x], [], MW A B F sw, 0, 0) (some (.long ((tabN (matC nb false) n (vp_updL (B 25) 0 1)) (2 ^ n - 1))), MW A (upB B 25 (tabN (matC nb false) n (vp_updL (B 25) 0 1))) F sw, 0, 0) := by
  have hn := hC.1
  have hp := pow10 hn
  have hp1 : 1 ≤ 2 ^ n := Nat.one_le_two_pow
  have hal := all_lt hn
  refine wp_go (f' := (89, [.ref 24, .int (nI 2), .int x], [.int (nI 0), .ref 24], MW A B F sw, 0, 0)) 4 rfl ?_
  refine wp_call rfl rfl rfl (ev_up (ev_cMat0 hC hR) (by decide)) ?_
  refine wp_eq (f' := (92, [.ref 24, .int (nI 2), .int x], [.long ((tabN (matC nb false) n (vp_updL (B 25) 0 1)) (2 ^ n - 1))], MW A (upB B 25 (tabN (matC nb false) n (vp_updL (B 25) 0 1))) F sw, 0, 0)) rfl ?_
  exact wp_lret rfl
theorem ev_cTell2 (hC : CI A F n nb) (hZ : CZ A) (hco : F 3 = F 2 → RI A n nb) (x : Int32)  : ∃ r4 r5 r6 : Nat → Int32, mv_Ev xs Ls 6 57 [.ref 24, .int (nI 2), .int x] (MW A B F sw) (some (.long ((tabN (matC nb false) n (vp_updL (B 25) 0 1)) (2 ^ n - 1))), MW (upA (upA (upA A 4 r4) 5 r5) 6 r6) (upB B 25 (tabN (matC nb false) n (vp_updL (B 25) 0 1))) (upF F 3 (F 2)) sw, 0, 0) ∧ RI (upA (upA (upA A 4 r4) 5 r5) 6 r6) n nb ∧ CZ (upA (upA (upA A 4 r4) 5 r5) 6 r6) := by
  obtain ⟨r4, r5, r6, hev, hR, hZ2⟩ := ev_rows_any (xs := xs) (Ls := Ls) (B := B) (sw := sw) hC hZ hco
  refine ⟨r4, r5, r6, ?_, hR, hZ2⟩
  refine ev_of_wp rfl rfl rfl ?_
  refine wp_go (f' := (4, [.ref 24, .int (nI 2), .int x], [.ref 1], MW A B F sw, 0, 0)) 2 rfl ?_
  refine wp_call rfl rfl rfl (ev_up hev (by decide)) ?_
  exact lq_cTell2 (A := (upA (upA (upA A 4 r4) 5 r5) 6 r6)) (F := upF F 3 (F 2)) hC hR x 
theorem ev_bTotal2 (hC : CI A F n nb) (hZ : CZ A) (hco : F 3 = F 2 → RI A n nb) (x : Int32)  : ∃ r4 r5 r6 : Nat → Int32, mv_Ev xs Ls 7 56 [.ref 0, .int (nI 2), .int x] (MW A B F sw) (some (.long ((tabN (matC nb false) n (vp_updL (B 25) 0 1)) (2 ^ n - 1))), MW (upA (upA (upA A 4 r4) 5 r5) 6 r6) (upB B 25 (tabN (matC nb false) n (vp_updL (B 25) 0 1))) (upF F 3 (F 2)) sw, 0, 0) ∧ RI (upA (upA (upA A 4 r4) 5 r5) 6 r6) n nb ∧ CZ (upA (upA (upA A 4 r4) 5 r5) 6 r6) := by
  obtain ⟨r4, r5, r6, hev, hR, hZ2⟩ := ev_cTell2 (xs := xs) (Ls := Ls) (B := B) (sw := sw) hC hZ hco x 
  refine ⟨r4, r5, r6, ?_, hR, hZ2⟩
  refine ev_of_wp rfl rfl rfl ?_
  refine wp_go (f' := ((if (nI 2) < 0 then 10 else 4), [.ref 0, .int (nI 2), .int x], [], MW A B F sw, 0, 0)) 2 rfl ?_
  refine wp_ite (fun h9 => absurd h9 (by decide)) (fun _ => ?_)
  refine wp_go (f' := ((if (nI 2) < (nI 14) then 14 else 10), [.ref 0, .int (nI 2), .int x], [], MW A B F sw, 0, 0)) 3 rfl ?_
  refine wp_ite (fun _ => ?_) (fun h9 => absurd (by decide) h9)
  refine wp_go (f' := ((if ¬ (nI 2) = (nI 1) then 33 else 19), [.ref 0, .int (nI 2), .int x], [], MW A B F sw, 0, 0)) 3 rfl ?_
  refine wp_ite (fun _ => ?_) (fun h9 => absurd (by decide) h9)
  refine wp_go (f' := (39, [.ref 0, .int (nI 2), .int x], [.int x, .int (nI 2), .ref 24], MW A B F sw, 0, 0)) 4 rfl ?_
  refine wp_call rfl rfl rfl (ev_up hev (by decide)) ?_
  refine wp_eq (f' := (42, [.ref 0, .int (nI 2), .int x], [.long ((tabN (matC nb false) n (vp_updL (B 25) 0 1)) (2 ^ n - 1))], MW (upA (upA (upA A 4 r4) 5 r5) 6 r6) (upB B 25 (tabN (matC nb false) n (vp_updL (B 25) 0 1))) (upF F 3 (F 2)) sw, 0, 0)) rfl ?_
  exact wp_lret rfl
theorem lq_cTell3 (hC : CI A F n nb) (hR : RI A n nb) (x : Int32)  : mv_Wp xs Ls 5 0 false (some .long) mv_c57 (7, [.ref 24, .int (nI 3), .int x], [], MW A B F sw, 0, 0) (some (.long ((tabN (matC nb true) n (vp_updL (B 25) 0 1)) (2 ^ n - 1))), MW A (upB B 25 (tabN (matC nb true) n (vp_updL (B 25) 0 1))) F sw, 0, 0) := by
  have hn := hC.1
  have hp := pow10 hn
  have hp1 : 1 ≤ 2 ^ n := Nat.one_le_two_pow
  have hal := all_lt hn
  refine wp_go (f' := (95, [.ref 24, .int (nI 3), .int x], [.int (nI 1), .ref 24], MW A B F sw, 0, 0)) 4 rfl ?_
  refine wp_call rfl rfl rfl (ev_up (ev_cMat1 hC hR) (by decide)) ?_
  refine wp_eq (f' := (98, [.ref 24, .int (nI 3), .int x], [.long ((tabN (matC nb true) n (vp_updL (B 25) 0 1)) (2 ^ n - 1))], MW A (upB B 25 (tabN (matC nb true) n (vp_updL (B 25) 0 1))) F sw, 0, 0)) rfl ?_
  exact wp_lret rfl
theorem ev_cTell3 (hC : CI A F n nb) (hZ : CZ A) (hco : F 3 = F 2 → RI A n nb) (x : Int32)  : ∃ r4 r5 r6 : Nat → Int32, mv_Ev xs Ls 6 57 [.ref 24, .int (nI 3), .int x] (MW A B F sw) (some (.long ((tabN (matC nb true) n (vp_updL (B 25) 0 1)) (2 ^ n - 1))), MW (upA (upA (upA A 4 r4) 5 r5) 6 r6) (upB B 25 (tabN (matC nb true) n (vp_updL (B 25) 0 1))) (upF F 3 (F 2)) sw, 0, 0) ∧ RI (upA (upA (upA A 4 r4) 5 r5) 6 r6) n nb ∧ CZ (upA (upA (upA A 4 r4) 5 r5) 6 r6) := by
  obtain ⟨r4, r5, r6, hev, hR, hZ2⟩ := ev_rows_any (xs := xs) (Ls := Ls) (B := B) (sw := sw) hC hZ hco
  refine ⟨r4, r5, r6, ?_, hR, hZ2⟩
  refine ev_of_wp rfl rfl rfl ?_
  refine wp_go (f' := (4, [.ref 24, .int (nI 3), .int x], [.ref 1], MW A B F sw, 0, 0)) 2 rfl ?_
  refine wp_call rfl rfl rfl (ev_up hev (by decide)) ?_
  exact lq_cTell3 (A := (upA (upA (upA A 4 r4) 5 r5) 6 r6)) (F := upF F 3 (F 2)) hC hR x 
theorem ev_bTotal3 (hC : CI A F n nb) (hZ : CZ A) (hco : F 3 = F 2 → RI A n nb) (x : Int32)  : ∃ r4 r5 r6 : Nat → Int32, mv_Ev xs Ls 7 56 [.ref 0, .int (nI 3), .int x] (MW A B F sw) (some (.long ((tabN (matC nb true) n (vp_updL (B 25) 0 1)) (2 ^ n - 1))), MW (upA (upA (upA A 4 r4) 5 r5) 6 r6) (upB B 25 (tabN (matC nb true) n (vp_updL (B 25) 0 1))) (upF F 3 (F 2)) sw, 0, 0) ∧ RI (upA (upA (upA A 4 r4) 5 r5) 6 r6) n nb ∧ CZ (upA (upA (upA A 4 r4) 5 r5) 6 r6) := by
  obtain ⟨r4, r5, r6, hev, hR, hZ2⟩ := ev_cTell3 (xs := xs) (Ls := Ls) (B := B) (sw := sw) hC hZ hco x 
  refine ⟨r4, r5, r6, ?_, hR, hZ2⟩
  refine ev_of_wp rfl rfl rfl ?_
  refine wp_go (f' := ((if (nI 3) < 0 then 10 else 4), [.ref 0, .int (nI 3), .int x], [], MW A B F sw, 0, 0)) 2 rfl ?_
  refine wp_ite (fun h9 => absurd h9 (by decide)) (fun _ => ?_)
  refine wp_go (f' := ((if (nI 3) < (nI 14) then 14 else 10), [.ref 0, .int (nI 3), .int x], [], MW A B F sw, 0, 0)) 3 rfl ?_
  refine wp_ite (fun _ => ?_) (fun h9 => absurd (by decide) h9)
  refine wp_go (f' := ((if ¬ (nI 3) = (nI 1) then 33 else 19), [.ref 0, .int (nI 3), .int x], [], MW A B F sw, 0, 0)) 3 rfl ?_
  refine wp_ite (fun _ => ?_) (fun h9 => absurd (by decide) h9)
  refine wp_go (f' := (39, [.ref 0, .int (nI 3), .int x], [.int x, .int (nI 3), .ref 24], MW A B F sw, 0, 0)) 4 rfl ?_
  refine wp_call rfl rfl rfl (ev_up hev (by decide)) ?_
  refine wp_eq (f' := (42, [.ref 0, .int (nI 3), .int x], [.long ((tabN (matC nb true) n (vp_updL (B 25) 0 1)) (2 ^ n - 1))], MW (upA (upA (upA A 4 r4) 5 r5) 6 r6) (upB B 25 (tabN (matC nb true) n (vp_updL (B 25) 0 1))) (upF F 3 (F 2)) sw, 0, 0)) rfl ?_
  exact wp_lret rfl
theorem lq_cTell4 (hC : CI A F n nb) (hR : RI A n nb) (x : Int32)  : mv_Wp xs Ls 5 0 false (some .long) mv_c57 (7, [.ref 24, .int (nI 4), .int x], [], MW A B F sw, 0, 0) (some (.long (nearC n nb)), MW A B F sw, 0, 0) := by
  have hn := hC.1
  have hp := pow10 hn
  have hp1 : 1 ≤ 2 ^ n := Nat.one_le_two_pow
  have hal := all_lt hn
  refine wp_go (f' := (100, [.ref 24, .int (nI 4), .int x], [.ref 24], MW A B F sw, 0, 0)) 3 rfl ?_
  refine wp_call rfl rfl rfl (ev_up (ev_cNear hC hR) (by decide)) ?_
  refine wp_eq (f' := (103, [.ref 24, .int (nI 4), .int x], [.long (nearC n nb)], MW A B F sw, 0, 0)) rfl ?_
  exact wp_lret rfl
theorem ev_cTell4 (hC : CI A F n nb) (hZ : CZ A) (hco : F 3 = F 2 → RI A n nb) (x : Int32)  : ∃ r4 r5 r6 : Nat → Int32, mv_Ev xs Ls 6 57 [.ref 24, .int (nI 4), .int x] (MW A B F sw) (some (.long (nearC n nb)), MW (upA (upA (upA A 4 r4) 5 r5) 6 r6) B (upF F 3 (F 2)) sw, 0, 0) ∧ RI (upA (upA (upA A 4 r4) 5 r5) 6 r6) n nb ∧ CZ (upA (upA (upA A 4 r4) 5 r5) 6 r6) := by
  obtain ⟨r4, r5, r6, hev, hR, hZ2⟩ := ev_rows_any (xs := xs) (Ls := Ls) (B := B) (sw := sw) hC hZ hco
  refine ⟨r4, r5, r6, ?_, hR, hZ2⟩
  refine ev_of_wp rfl rfl rfl ?_
  refine wp_go (f' := (4, [.ref 24, .int (nI 4), .int x], [.ref 1], MW A B F sw, 0, 0)) 2 rfl ?_
  refine wp_call rfl rfl rfl (ev_up hev (by decide)) ?_
  exact lq_cTell4 (A := (upA (upA (upA A 4 r4) 5 r5) 6 r6)) (F := upF F 3 (F 2)) hC hR x 
theorem ev_bTotal4 (hC : CI A F n nb) (hZ : CZ A) (hco : F 3 = F 2 → RI A n nb) (x : Int32)  : ∃ r4 r5 r6 : Nat → Int32, mv_Ev xs Ls 7 56 [.ref 0, .int (nI 4), .int x] (MW A B F sw) (some (.long (nearC n nb)), MW (upA (upA (upA A 4 r4) 5 r5) 6 r6) B (upF F 3 (F 2)) sw, 0, 0) ∧ RI (upA (upA (upA A 4 r4) 5 r5) 6 r6) n nb ∧ CZ (upA (upA (upA A 4 r4) 5 r5) 6 r6) := by
  obtain ⟨r4, r5, r6, hev, hR, hZ2⟩ := ev_cTell4 (xs := xs) (Ls := Ls) (B := B) (sw := sw) hC hZ hco x 
  refine ⟨r4, r5, r6, ?_, hR, hZ2⟩
  refine ev_of_wp rfl rfl rfl ?_
  refine wp_go (f' := ((if (nI 4) < 0 then 10 else 4), [.ref 0, .int (nI 4), .int x], [], MW A B F sw, 0, 0)) 2 rfl ?_
  refine wp_ite (fun h9 => absurd h9 (by decide)) (fun _ => ?_)
  refine wp_go (f' := ((if (nI 4) < (nI 14) then 14 else 10), [.ref 0, .int (nI 4), .int x], [], MW A B F sw, 0, 0)) 3 rfl ?_
  refine wp_ite (fun _ => ?_) (fun h9 => absurd (by decide) h9)
  refine wp_go (f' := ((if ¬ (nI 4) = (nI 1) then 33 else 19), [.ref 0, .int (nI 4), .int x], [], MW A B F sw, 0, 0)) 3 rfl ?_
  refine wp_ite (fun _ => ?_) (fun h9 => absurd (by decide) h9)
  refine wp_go (f' := (39, [.ref 0, .int (nI 4), .int x], [.int x, .int (nI 4), .ref 24], MW A B F sw, 0, 0)) 4 rfl ?_
  refine wp_call rfl rfl rfl (ev_up hev (by decide)) ?_
  refine wp_eq (f' := (42, [.ref 0, .int (nI 4), .int x], [.long (nearC n nb)], MW (upA (upA (upA A 4 r4) 5 r5) 6 r6) B (upF F 3 (F 2)) sw, 0, 0)) rfl ?_
  exact wp_lret rfl
theorem lq_cTell5 (hC : CI A F n nb) (hR : RI A n nb) (x : Int32) (h2 : 3 ≤ n) : mv_Wp xs Ls 5 0 false (some .long) mv_c57 (7, [.ref 24, .int (nI 5), .int x], [], MW A B F sw, 0, 0) (some (.long (armT (armA n nb (B 27)) (sd (2 ^ n - 1) (2 ^ (n - 1))) (nb (n - 1)) / 2)), MW A (upB B 27 (armA n nb (B 27))) F sw, 0, 0) := by
  have hn := hC.1
  have hp := pow10 hn
  have hp1 : 1 ≤ 2 ^ n := Nat.one_le_two_pow
  have hal := all_lt hn
  refine wp_go (f' := (105, [.ref 24, .int (nI 5), .int x], [.ref 24], MW A B F sw, 0, 0)) 3 rfl ?_
  refine wp_call rfl rfl rfl (ev_up (ev_cRings hC hR h2) (by decide)) ?_
  refine wp_eq (f' := (108, [.ref 24, .int (nI 5), .int x], [.long (armT (armA n nb (B 27)) (sd (2 ^ n - 1) (2 ^ (n - 1))) (nb (n - 1)) / 2)], MW A (upB B 27 (armA n nb (B 27))) F sw, 0, 0)) rfl ?_
  exact wp_lret rfl
theorem ev_cTell5 (hC : CI A F n nb) (hZ : CZ A) (hco : F 3 = F 2 → RI A n nb) (x : Int32) (h2 : 3 ≤ n) : ∃ r4 r5 r6 : Nat → Int32, mv_Ev xs Ls 6 57 [.ref 24, .int (nI 5), .int x] (MW A B F sw) (some (.long (armT (armA n nb (B 27)) (sd (2 ^ n - 1) (2 ^ (n - 1))) (nb (n - 1)) / 2)), MW (upA (upA (upA A 4 r4) 5 r5) 6 r6) (upB B 27 (armA n nb (B 27))) (upF F 3 (F 2)) sw, 0, 0) ∧ RI (upA (upA (upA A 4 r4) 5 r5) 6 r6) n nb ∧ CZ (upA (upA (upA A 4 r4) 5 r5) 6 r6) := by
  obtain ⟨r4, r5, r6, hev, hR, hZ2⟩ := ev_rows_any (xs := xs) (Ls := Ls) (B := B) (sw := sw) hC hZ hco
  refine ⟨r4, r5, r6, ?_, hR, hZ2⟩
  refine ev_of_wp rfl rfl rfl ?_
  refine wp_go (f' := (4, [.ref 24, .int (nI 5), .int x], [.ref 1], MW A B F sw, 0, 0)) 2 rfl ?_
  refine wp_call rfl rfl rfl (ev_up hev (by decide)) ?_
  exact lq_cTell5 (A := (upA (upA (upA A 4 r4) 5 r5) 6 r6)) (F := upF F 3 (F 2)) hC hR x h2
theorem ev_bTotal5 (hC : CI A F n nb) (hZ : CZ A) (hco : F 3 = F 2 → RI A n nb) (x : Int32) (h2 : 3 ≤ n) : ∃ r4 r5 r6 : Nat → Int32, mv_Ev xs Ls 7 56 [.ref 0, .int (nI 5), .int x] (MW A B F sw) (some (.long (armT (armA n nb (B 27)) (sd (2 ^ n - 1) (2 ^ (n - 1))) (nb (n - 1)) / 2)), MW (upA (upA (upA A 4 r4) 5 r5) 6 r6) (upB B 27 (armA n nb (B 27))) (upF F 3 (F 2)) sw, 0, 0) ∧ RI (upA (upA (upA A 4 r4) 5 r5) 6 r6) n nb ∧ CZ (upA (upA (upA A 4 r4) 5 r5) 6 r6) := by
  obtain ⟨r4, r5, r6, hev, hR, hZ2⟩ := ev_cTell5 (xs := xs) (Ls := Ls) (B := B) (sw := sw) hC hZ hco x h2
  refine ⟨r4, r5, r6, ?_, hR, hZ2⟩
  refine ev_of_wp rfl rfl rfl ?_
  refine wp_go (f' := ((if (nI 5) < 0 then 10 else 4), [.ref 0, .int (nI 5), .int x], [], MW A B F sw, 0, 0)) 2 rfl ?_
  refine wp_ite (fun h9 => absurd h9 (by decide)) (fun _ => ?_)
  refine wp_go (f' := ((if (nI 5) < (nI 14) then 14 else 10), [.ref 0, .int (nI 5), .int x], [], MW A B F sw, 0, 0)) 3 rfl ?_
  refine wp_ite (fun _ => ?_) (fun h9 => absurd (by decide) h9)
  refine wp_go (f' := ((if ¬ (nI 5) = (nI 1) then 33 else 19), [.ref 0, .int (nI 5), .int x], [], MW A B F sw, 0, 0)) 3 rfl ?_
  refine wp_ite (fun _ => ?_) (fun h9 => absurd (by decide) h9)
  refine wp_go (f' := (39, [.ref 0, .int (nI 5), .int x], [.int x, .int (nI 5), .ref 24], MW A B F sw, 0, 0)) 4 rfl ?_
  refine wp_call rfl rfl rfl (ev_up hev (by decide)) ?_
  refine wp_eq (f' := (42, [.ref 0, .int (nI 5), .int x], [.long (armT (armA n nb (B 27)) (sd (2 ^ n - 1) (2 ^ (n - 1))) (nb (n - 1)) / 2)], MW (upA (upA (upA A 4 r4) 5 r5) 6 r6) (upB B 27 (armA n nb (B 27))) (upF F 3 (F 2)) sw, 0, 0)) rfl ?_
  exact wp_lret rfl
theorem lq_cTell5z (hC : CI A F n nb) (hR : RI A n nb) (x : Int32) (h2 : n < 3) : mv_Wp xs Ls 5 0 false (some .long) mv_c57 (7, [.ref 24, .int (nI 5), .int x], [], MW A B F sw, 0, 0) (some (.long 0), MW A B F sw, 0, 0) := by
  have hn := hC.1
  have hp := pow10 hn
  have hp1 : 1 ≤ 2 ^ n := Nat.one_le_two_pow
  have hal := all_lt hn
  refine wp_go (f' := (105, [.ref 24, .int (nI 5), .int x], [.ref 24], MW A B F sw, 0, 0)) 3 rfl ?_
  refine wp_call rfl rfl rfl (ev_up (ev_cRings0 hC hR h2) (by decide)) ?_
  refine wp_eq (f' := (108, [.ref 24, .int (nI 5), .int x], [.long 0], MW A B F sw, 0, 0)) rfl ?_
  exact wp_lret rfl
theorem ev_cTell5z (hC : CI A F n nb) (hZ : CZ A) (hco : F 3 = F 2 → RI A n nb) (x : Int32) (h2 : n < 3) : ∃ r4 r5 r6 : Nat → Int32, mv_Ev xs Ls 6 57 [.ref 24, .int (nI 5), .int x] (MW A B F sw) (some (.long 0), MW (upA (upA (upA A 4 r4) 5 r5) 6 r6) B (upF F 3 (F 2)) sw, 0, 0) ∧ RI (upA (upA (upA A 4 r4) 5 r5) 6 r6) n nb ∧ CZ (upA (upA (upA A 4 r4) 5 r5) 6 r6) := by
  obtain ⟨r4, r5, r6, hev, hR, hZ2⟩ := ev_rows_any (xs := xs) (Ls := Ls) (B := B) (sw := sw) hC hZ hco
  refine ⟨r4, r5, r6, ?_, hR, hZ2⟩
  refine ev_of_wp rfl rfl rfl ?_
  refine wp_go (f' := (4, [.ref 24, .int (nI 5), .int x], [.ref 1], MW A B F sw, 0, 0)) 2 rfl ?_
  refine wp_call rfl rfl rfl (ev_up hev (by decide)) ?_
  exact lq_cTell5z (A := (upA (upA (upA A 4 r4) 5 r5) 6 r6)) (F := upF F 3 (F 2)) hC hR x h2
theorem ev_bTotal5z (hC : CI A F n nb) (hZ : CZ A) (hco : F 3 = F 2 → RI A n nb) (x : Int32) (h2 : n < 3) : ∃ r4 r5 r6 : Nat → Int32, mv_Ev xs Ls 7 56 [.ref 0, .int (nI 5), .int x] (MW A B F sw) (some (.long 0), MW (upA (upA (upA A 4 r4) 5 r5) 6 r6) B (upF F 3 (F 2)) sw, 0, 0) ∧ RI (upA (upA (upA A 4 r4) 5 r5) 6 r6) n nb ∧ CZ (upA (upA (upA A 4 r4) 5 r5) 6 r6) := by
  obtain ⟨r4, r5, r6, hev, hR, hZ2⟩ := ev_cTell5z (xs := xs) (Ls := Ls) (B := B) (sw := sw) hC hZ hco x h2
  refine ⟨r4, r5, r6, ?_, hR, hZ2⟩
  refine ev_of_wp rfl rfl rfl ?_
  refine wp_go (f' := ((if (nI 5) < 0 then 10 else 4), [.ref 0, .int (nI 5), .int x], [], MW A B F sw, 0, 0)) 2 rfl ?_
  refine wp_ite (fun h9 => absurd h9 (by decide)) (fun _ => ?_)
  refine wp_go (f' := ((if (nI 5) < (nI 14) then 14 else 10), [.ref 0, .int (nI 5), .int x], [], MW A B F sw, 0, 0)) 3 rfl ?_
  refine wp_ite (fun _ => ?_) (fun h9 => absurd (by decide) h9)
  refine wp_go (f' := ((if ¬ (nI 5) = (nI 1) then 33 else 19), [.ref 0, .int (nI 5), .int x], [], MW A B F sw, 0, 0)) 3 rfl ?_
  refine wp_ite (fun _ => ?_) (fun h9 => absurd (by decide) h9)
  refine wp_go (f' := (39, [.ref 0, .int (nI 5), .int x], [.int x, .int (nI 5), .ref 24], MW A B F sw, 0, 0)) 4 rfl ?_
  refine wp_call rfl rfl rfl (ev_up hev (by decide)) ?_
  refine wp_eq (f' := (42, [.ref 0, .int (nI 5), .int x], [.long 0], MW (upA (upA (upA A 4 r4) 5 r5) 6 r6) B (upF F 3 (F 2)) sw, 0, 0)) rfl ?_
  exact wp_lret rfl
theorem lq_cTell6 (hC : CI A F n nb) (hR : RI A n nb) (x : Int32) (h2 : 2 ≤ n) : mv_Wp xs Ls 5 0 false (some .long) mv_c57 (7, [.ref 24, .int (nI 6), .int x], [], MW A B F sw, 0, 0) (some (.long (wayT (wayG (armA n nb (B 27)) n (B 25)) n / 2)), MW A (upB (upB B 27 (armA n nb (B 27))) 25 (wayG (armA n nb (B 27)) n (B 25))) F sw, 0, 0) := by
  have hn := hC.1
  have hp := pow10 hn
  have hp1 : 1 ≤ 2 ^ n := Nat.one_le_two_pow
  have hal := all_lt hn
  refine wp_go (f' := (110, [.ref 24, .int (nI 6), .int x], [.ref 24], MW A B F sw, 0, 0)) 3 rfl ?_
  refine wp_call rfl rfl rfl (ev_up (ev_cWays hC hR h2) (by decide)) ?_
  refine wp_eq (f' := (113, [.ref 24, .int (nI 6), .int x], [.long (wayT (wayG (armA n nb (B 27)) n (B 25)) n / 2)], MW A (upB (upB B 27 (armA n nb (B 27))) 25 (wayG (armA n nb (B 27)) n (B 25))) F sw, 0, 0)) rfl ?_
  exact wp_lret rfl
theorem ev_cTell6 (hC : CI A F n nb) (hZ : CZ A) (hco : F 3 = F 2 → RI A n nb) (x : Int32) (h2 : 2 ≤ n) : ∃ r4 r5 r6 : Nat → Int32, mv_Ev xs Ls 6 57 [.ref 24, .int (nI 6), .int x] (MW A B F sw) (some (.long (wayT (wayG (armA n nb (B 27)) n (B 25)) n / 2)), MW (upA (upA (upA A 4 r4) 5 r5) 6 r6) (upB (upB B 27 (armA n nb (B 27))) 25 (wayG (armA n nb (B 27)) n (B 25))) (upF F 3 (F 2)) sw, 0, 0) ∧ RI (upA (upA (upA A 4 r4) 5 r5) 6 r6) n nb ∧ CZ (upA (upA (upA A 4 r4) 5 r5) 6 r6) := by
  obtain ⟨r4, r5, r6, hev, hR, hZ2⟩ := ev_rows_any (xs := xs) (Ls := Ls) (B := B) (sw := sw) hC hZ hco
  refine ⟨r4, r5, r6, ?_, hR, hZ2⟩
  refine ev_of_wp rfl rfl rfl ?_
  refine wp_go (f' := (4, [.ref 24, .int (nI 6), .int x], [.ref 1], MW A B F sw, 0, 0)) 2 rfl ?_
  refine wp_call rfl rfl rfl (ev_up hev (by decide)) ?_
  exact lq_cTell6 (A := (upA (upA (upA A 4 r4) 5 r5) 6 r6)) (F := upF F 3 (F 2)) hC hR x h2
theorem ev_bTotal6 (hC : CI A F n nb) (hZ : CZ A) (hco : F 3 = F 2 → RI A n nb) (x : Int32) (h2 : 2 ≤ n) : ∃ r4 r5 r6 : Nat → Int32, mv_Ev xs Ls 7 56 [.ref 0, .int (nI 6), .int x] (MW A B F sw) (some (.long (wayT (wayG (armA n nb (B 27)) n (B 25)) n / 2)), MW (upA (upA (upA A 4 r4) 5 r5) 6 r6) (upB (upB B 27 (armA n nb (B 27))) 25 (wayG (armA n nb (B 27)) n (B 25))) (upF F 3 (F 2)) sw, 0, 0) ∧ RI (upA (upA (upA A 4 r4) 5 r5) 6 r6) n nb ∧ CZ (upA (upA (upA A 4 r4) 5 r5) 6 r6) := by
  obtain ⟨r4, r5, r6, hev, hR, hZ2⟩ := ev_cTell6 (xs := xs) (Ls := Ls) (B := B) (sw := sw) hC hZ hco x h2
  refine ⟨r4, r5, r6, ?_, hR, hZ2⟩
  refine ev_of_wp rfl rfl rfl ?_
  refine wp_go (f' := ((if (nI 6) < 0 then 10 else 4), [.ref 0, .int (nI 6), .int x], [], MW A B F sw, 0, 0)) 2 rfl ?_
  refine wp_ite (fun h9 => absurd h9 (by decide)) (fun _ => ?_)
  refine wp_go (f' := ((if (nI 6) < (nI 14) then 14 else 10), [.ref 0, .int (nI 6), .int x], [], MW A B F sw, 0, 0)) 3 rfl ?_
  refine wp_ite (fun _ => ?_) (fun h9 => absurd (by decide) h9)
  refine wp_go (f' := ((if ¬ (nI 6) = (nI 1) then 33 else 19), [.ref 0, .int (nI 6), .int x], [], MW A B F sw, 0, 0)) 3 rfl ?_
  refine wp_ite (fun _ => ?_) (fun h9 => absurd (by decide) h9)
  refine wp_go (f' := (39, [.ref 0, .int (nI 6), .int x], [.int x, .int (nI 6), .ref 24], MW A B F sw, 0, 0)) 4 rfl ?_
  refine wp_call rfl rfl rfl (ev_up hev (by decide)) ?_
  refine wp_eq (f' := (42, [.ref 0, .int (nI 6), .int x], [.long (wayT (wayG (armA n nb (B 27)) n (B 25)) n / 2)], MW (upA (upA (upA A 4 r4) 5 r5) 6 r6) (upB (upB B 27 (armA n nb (B 27))) 25 (wayG (armA n nb (B 27)) n (B 25))) (upF F 3 (F 2)) sw, 0, 0)) rfl ?_
  exact wp_lret rfl
theorem lq_cTell6z (hC : CI A F n nb) (hR : RI A n nb) (x : Int32) (h2 : n < 2) : mv_Wp xs Ls 5 0 false (some .long) mv_c57 (7, [.ref 24, .int (nI 6), .int x], [], MW A B F sw, 0, 0) (some (.long ((nI n).toInt64)), MW A B F sw, 0, 0) := by
  have hn := hC.1
  have hp := pow10 hn
  have hp1 : 1 ≤ 2 ^ n := Nat.one_le_two_pow
  have hal := all_lt hn
  refine wp_go (f' := (110, [.ref 24, .int (nI 6), .int x], [.ref 24], MW A B F sw, 0, 0)) 3 rfl ?_
  refine wp_call rfl rfl rfl (ev_up (ev_cWays0 hC hR h2) (by decide)) ?_
  refine wp_eq (f' := (113, [.ref 24, .int (nI 6), .int x], [.long ((nI n).toInt64)], MW A B F sw, 0, 0)) rfl ?_
  exact wp_lret rfl
theorem ev_cTell6z (hC : CI A F n nb) (hZ : CZ A) (hco : F 3 = F 2 → RI A n nb) (x : Int32) (h2 : n < 2) : ∃ r4 r5 r6 : Nat → Int32, mv_Ev xs Ls 6 57 [.ref 24, .int (nI 6), .int x] (MW A B F sw) (some (.long ((nI n).toInt64)), MW (upA (upA (upA A 4 r4) 5 r5) 6 r6) B (upF F 3 (F 2)) sw, 0, 0) ∧ RI (upA (upA (upA A 4 r4) 5 r5) 6 r6) n nb ∧ CZ (upA (upA (upA A 4 r4) 5 r5) 6 r6) := by
  obtain ⟨r4, r5, r6, hev, hR, hZ2⟩ := ev_rows_any (xs := xs) (Ls := Ls) (B := B) (sw := sw) hC hZ hco
  refine ⟨r4, r5, r6, ?_, hR, hZ2⟩
  refine ev_of_wp rfl rfl rfl ?_
  refine wp_go (f' := (4, [.ref 24, .int (nI 6), .int x], [.ref 1], MW A B F sw, 0, 0)) 2 rfl ?_
  refine wp_call rfl rfl rfl (ev_up hev (by decide)) ?_
  exact lq_cTell6z (A := (upA (upA (upA A 4 r4) 5 r5) 6 r6)) (F := upF F 3 (F 2)) hC hR x h2
theorem ev_bTotal6z (hC : CI A F n nb) (hZ : CZ A) (hco : F 3 = F 2 → RI A n nb) (x : Int32) (h2 : n < 2) : ∃ r4 r5 r6 : Nat → Int32, mv_Ev xs Ls 7 56 [.ref 0, .int (nI 6), .int x] (MW A B F sw) (some (.long ((nI n).toInt64)), MW (upA (upA (upA A 4 r4) 5 r5) 6 r6) B (upF F 3 (F 2)) sw, 0, 0) ∧ RI (upA (upA (upA A 4 r4) 5 r5) 6 r6) n nb ∧ CZ (upA (upA (upA A 4 r4) 5 r5) 6 r6) := by
  obtain ⟨r4, r5, r6, hev, hR, hZ2⟩ := ev_cTell6z (xs := xs) (Ls := Ls) (B := B) (sw := sw) hC hZ hco x h2
  refine ⟨r4, r5, r6, ?_, hR, hZ2⟩
  refine ev_of_wp rfl rfl rfl ?_
  refine wp_go (f' := ((if (nI 6) < 0 then 10 else 4), [.ref 0, .int (nI 6), .int x], [], MW A B F sw, 0, 0)) 2 rfl ?_
  refine wp_ite (fun h9 => absurd h9 (by decide)) (fun _ => ?_)
  refine wp_go (f' := ((if (nI 6) < (nI 14) then 14 else 10), [.ref 0, .int (nI 6), .int x], [], MW A B F sw, 0, 0)) 3 rfl ?_
  refine wp_ite (fun _ => ?_) (fun h9 => absurd (by decide) h9)
  refine wp_go (f' := ((if ¬ (nI 6) = (nI 1) then 33 else 19), [.ref 0, .int (nI 6), .int x], [], MW A B F sw, 0, 0)) 3 rfl ?_
  refine wp_ite (fun _ => ?_) (fun h9 => absurd (by decide) h9)
  refine wp_go (f' := (39, [.ref 0, .int (nI 6), .int x], [.int x, .int (nI 6), .ref 24], MW A B F sw, 0, 0)) 4 rfl ?_
  refine wp_call rfl rfl rfl (ev_up hev (by decide)) ?_
  refine wp_eq (f' := (42, [.ref 0, .int (nI 6), .int x], [.long ((nI n).toInt64)], MW (upA (upA (upA A 4 r4) 5 r5) 6 r6) B (upF F 3 (F 2)) sw, 0, 0)) rfl ?_
  exact wp_lret rfl
theorem lq_cTell7 (hC : CI A F n nb) (hR : RI A n nb) (x : Int32)  : mv_Wp xs Ls 5 0 false (some .long) mv_c57 (7, [.ref 24, .int (nI 7), .int x], [], MW A B F sw, 0, 0) (some (.long ((tabN (treeG nb) n (vp_updL (B 25) 0 0)) (2 ^ n - 1))), MW A (upB B 25 (tabN (treeG nb) n (vp_updL (B 25) 0 0))) F sw, 0, 0) := by
  have hn := hC.1
  have hp := pow10 hn
  have hp1 : 1 ≤ 2 ^ n := Nat.one_le_two_pow
  have hal := all_lt hn
  refine wp_go (f' := (115, [.ref 24, .int (nI 7), .int x], [.ref 24], MW A B F sw, 0, 0)) 3 rfl ?_
  refine wp_call rfl rfl rfl (ev_up (ev_cTrees hC hR) (by decide)) ?_
  refine wp_eq (f' := (118, [.ref 24, .int (nI 7), .int x], [.long ((tabN (treeG nb) n (vp_updL (B 25) 0 0)) (2 ^ n - 1))], MW A (upB B 25 (tabN (treeG nb) n (vp_updL (B 25) 0 0))) F sw, 0, 0)) rfl ?_
  exact wp_lret rfl
theorem ev_cTell7 (hC : CI A F n nb) (hZ : CZ A) (hco : F 3 = F 2 → RI A n nb) (x : Int32)  : ∃ r4 r5 r6 : Nat → Int32, mv_Ev xs Ls 6 57 [.ref 24, .int (nI 7), .int x] (MW A B F sw) (some (.long ((tabN (treeG nb) n (vp_updL (B 25) 0 0)) (2 ^ n - 1))), MW (upA (upA (upA A 4 r4) 5 r5) 6 r6) (upB B 25 (tabN (treeG nb) n (vp_updL (B 25) 0 0))) (upF F 3 (F 2)) sw, 0, 0) ∧ RI (upA (upA (upA A 4 r4) 5 r5) 6 r6) n nb ∧ CZ (upA (upA (upA A 4 r4) 5 r5) 6 r6) := by
  obtain ⟨r4, r5, r6, hev, hR, hZ2⟩ := ev_rows_any (xs := xs) (Ls := Ls) (B := B) (sw := sw) hC hZ hco
  refine ⟨r4, r5, r6, ?_, hR, hZ2⟩
  refine ev_of_wp rfl rfl rfl ?_
  refine wp_go (f' := (4, [.ref 24, .int (nI 7), .int x], [.ref 1], MW A B F sw, 0, 0)) 2 rfl ?_
  refine wp_call rfl rfl rfl (ev_up hev (by decide)) ?_
  exact lq_cTell7 (A := (upA (upA (upA A 4 r4) 5 r5) 6 r6)) (F := upF F 3 (F 2)) hC hR x 
theorem ev_bTotal7 (hC : CI A F n nb) (hZ : CZ A) (hco : F 3 = F 2 → RI A n nb) (x : Int32)  : ∃ r4 r5 r6 : Nat → Int32, mv_Ev xs Ls 7 56 [.ref 0, .int (nI 7), .int x] (MW A B F sw) (some (.long ((tabN (treeG nb) n (vp_updL (B 25) 0 0)) (2 ^ n - 1))), MW (upA (upA (upA A 4 r4) 5 r5) 6 r6) (upB B 25 (tabN (treeG nb) n (vp_updL (B 25) 0 0))) (upF F 3 (F 2)) sw, 0, 0) ∧ RI (upA (upA (upA A 4 r4) 5 r5) 6 r6) n nb ∧ CZ (upA (upA (upA A 4 r4) 5 r5) 6 r6) := by
  obtain ⟨r4, r5, r6, hev, hR, hZ2⟩ := ev_cTell7 (xs := xs) (Ls := Ls) (B := B) (sw := sw) hC hZ hco x 
  refine ⟨r4, r5, r6, ?_, hR, hZ2⟩
  refine ev_of_wp rfl rfl rfl ?_
  refine wp_go (f' := ((if (nI 7) < 0 then 10 else 4), [.ref 0, .int (nI 7), .int x], [], MW A B F sw, 0, 0)) 2 rfl ?_
  refine wp_ite (fun h9 => absurd h9 (by decide)) (fun _ => ?_)
  refine wp_go (f' := ((if (nI 7) < (nI 14) then 14 else 10), [.ref 0, .int (nI 7), .int x], [], MW A B F sw, 0, 0)) 3 rfl ?_
  refine wp_ite (fun _ => ?_) (fun h9 => absurd (by decide) h9)
  refine wp_go (f' := ((if ¬ (nI 7) = (nI 1) then 33 else 19), [.ref 0, .int (nI 7), .int x], [], MW A B F sw, 0, 0)) 3 rfl ?_
  refine wp_ite (fun _ => ?_) (fun h9 => absurd (by decide) h9)
  refine wp_go (f' := (39, [.ref 0, .int (nI 7), .int x], [.int x, .int (nI 7), .ref 24], MW A B F sw, 0, 0)) 4 rfl ?_
  refine wp_call rfl rfl rfl (ev_up hev (by decide)) ?_
  refine wp_eq (f' := (42, [.ref 0, .int (nI 7), .int x], [.long ((tabN (treeG nb) n (vp_updL (B 25) 0 0)) (2 ^ n - 1))], MW (upA (upA (upA A 4 r4) 5 r5) 6 r6) (upB B 25 (tabN (treeG nb) n (vp_updL (B 25) 0 0))) (upF F 3 (F 2)) sw, 0, 0)) rfl ?_
  exact wp_lret rfl
theorem lq_cTell8 (hC : CI A F n nb) (hR : RI A n nb) (x : Int32)  : mv_Wp xs Ls 5 0 false (some .long) mv_c57 (7, [.ref 24, .int (nI 8), .int x], [], MW A B F sw, 0, 0) (some (.long ((tabN (forC (tabN (treeG nb) n (vp_updL (B 25) 0 0))) n (vp_updL (B 26) 0 1)) (2 ^ n - 1))), MW A (upB (upB B 25 (tabN (treeG nb) n (vp_updL (B 25) 0 0))) 26 (tabN (forC (tabN (treeG nb) n (vp_updL (B 25) 0 0))) n (vp_updL (B 26) 0 1))) F sw, 0, 0) := by
  have hn := hC.1
  have hp := pow10 hn
  have hp1 : 1 ≤ 2 ^ n := Nat.one_le_two_pow
  have hal := all_lt hn
  refine wp_go (f' := (120, [.ref 24, .int (nI 8), .int x], [.ref 24], MW A B F sw, 0, 0)) 3 rfl ?_
  refine wp_call rfl rfl rfl (ev_up (ev_cForests hC hR) (by decide)) ?_
  refine wp_eq (f' := (123, [.ref 24, .int (nI 8), .int x], [.long ((tabN (forC (tabN (treeG nb) n (vp_updL (B 25) 0 0))) n (vp_updL (B 26) 0 1)) (2 ^ n - 1))], MW A (upB (upB B 25 (tabN (treeG nb) n (vp_updL (B 25) 0 0))) 26 (tabN (forC (tabN (treeG nb) n (vp_updL (B 25) 0 0))) n (vp_updL (B 26) 0 1))) F sw, 0, 0)) rfl ?_
  exact wp_lret rfl
theorem ev_cTell8 (hC : CI A F n nb) (hZ : CZ A) (hco : F 3 = F 2 → RI A n nb) (x : Int32)  : ∃ r4 r5 r6 : Nat → Int32, mv_Ev xs Ls 6 57 [.ref 24, .int (nI 8), .int x] (MW A B F sw) (some (.long ((tabN (forC (tabN (treeG nb) n (vp_updL (B 25) 0 0))) n (vp_updL (B 26) 0 1)) (2 ^ n - 1))), MW (upA (upA (upA A 4 r4) 5 r5) 6 r6) (upB (upB B 25 (tabN (treeG nb) n (vp_updL (B 25) 0 0))) 26 (tabN (forC (tabN (treeG nb) n (vp_updL (B 25) 0 0))) n (vp_updL (B 26) 0 1))) (upF F 3 (F 2)) sw, 0, 0) ∧ RI (upA (upA (upA A 4 r4) 5 r5) 6 r6) n nb ∧ CZ (upA (upA (upA A 4 r4) 5 r5) 6 r6) := by
  obtain ⟨r4, r5, r6, hev, hR, hZ2⟩ := ev_rows_any (xs := xs) (Ls := Ls) (B := B) (sw := sw) hC hZ hco
  refine ⟨r4, r5, r6, ?_, hR, hZ2⟩
  refine ev_of_wp rfl rfl rfl ?_
  refine wp_go (f' := (4, [.ref 24, .int (nI 8), .int x], [.ref 1], MW A B F sw, 0, 0)) 2 rfl ?_
  refine wp_call rfl rfl rfl (ev_up hev (by decide)) ?_
  exact lq_cTell8 (A := (upA (upA (upA A 4 r4) 5 r5) 6 r6)) (F := upF F 3 (F 2)) hC hR x 
theorem ev_bTotal8 (hC : CI A F n nb) (hZ : CZ A) (hco : F 3 = F 2 → RI A n nb) (x : Int32)  : ∃ r4 r5 r6 : Nat → Int32, mv_Ev xs Ls 7 56 [.ref 0, .int (nI 8), .int x] (MW A B F sw) (some (.long ((tabN (forC (tabN (treeG nb) n (vp_updL (B 25) 0 0))) n (vp_updL (B 26) 0 1)) (2 ^ n - 1))), MW (upA (upA (upA A 4 r4) 5 r5) 6 r6) (upB (upB B 25 (tabN (treeG nb) n (vp_updL (B 25) 0 0))) 26 (tabN (forC (tabN (treeG nb) n (vp_updL (B 25) 0 0))) n (vp_updL (B 26) 0 1))) (upF F 3 (F 2)) sw, 0, 0) ∧ RI (upA (upA (upA A 4 r4) 5 r5) 6 r6) n nb ∧ CZ (upA (upA (upA A 4 r4) 5 r5) 6 r6) := by
  obtain ⟨r4, r5, r6, hev, hR, hZ2⟩ := ev_cTell8 (xs := xs) (Ls := Ls) (B := B) (sw := sw) hC hZ hco x 
  refine ⟨r4, r5, r6, ?_, hR, hZ2⟩
  refine ev_of_wp rfl rfl rfl ?_
  refine wp_go (f' := ((if (nI 8) < 0 then 10 else 4), [.ref 0, .int (nI 8), .int x], [], MW A B F sw, 0, 0)) 2 rfl ?_
  refine wp_ite (fun h9 => absurd h9 (by decide)) (fun _ => ?_)
  refine wp_go (f' := ((if (nI 8) < (nI 14) then 14 else 10), [.ref 0, .int (nI 8), .int x], [], MW A B F sw, 0, 0)) 3 rfl ?_
  refine wp_ite (fun _ => ?_) (fun h9 => absurd (by decide) h9)
  refine wp_go (f' := ((if ¬ (nI 8) = (nI 1) then 33 else 19), [.ref 0, .int (nI 8), .int x], [], MW A B F sw, 0, 0)) 3 rfl ?_
  refine wp_ite (fun _ => ?_) (fun h9 => absurd (by decide) h9)
  refine wp_go (f' := (39, [.ref 0, .int (nI 8), .int x], [.int x, .int (nI 8), .ref 24], MW A B F sw, 0, 0)) 4 rfl ?_
  refine wp_call rfl rfl rfl (ev_up hev (by decide)) ?_
  refine wp_eq (f' := (42, [.ref 0, .int (nI 8), .int x], [.long ((tabN (forC (tabN (treeG nb) n (vp_updL (B 25) 0 0))) n (vp_updL (B 26) 0 1)) (2 ^ n - 1))], MW (upA (upA (upA A 4 r4) 5 r5) 6 r6) (upB (upB B 25 (tabN (treeG nb) n (vp_updL (B 25) 0 0))) 26 (tabN (forC (tabN (treeG nb) n (vp_updL (B 25) 0 0))) n (vp_updL (B 26) 0 1))) (upF F 3 (F 2)) sw, 0, 0)) rfl ?_
  exact wp_lret rfl
theorem lq_cTell9 (hC : CI A F n nb) (hR : RI A n nb) (x : Int32)  : mv_Wp xs Ls 5 0 false (some .long) mv_c57 (7, [.ref 24, .int (nI 9), .int x], [], MW A B F sw, 0, 0) (some (.long ((tabN (joinC nb) n (vp_updL (B 25) 0 0)) (2 ^ n - 1))), MW A (upB B 25 (tabN (joinC nb) n (vp_updL (B 25) 0 0))) F sw, 0, 0) := by
  have hn := hC.1
  have hp := pow10 hn
  have hp1 : 1 ≤ 2 ^ n := Nat.one_le_two_pow
  have hal := all_lt hn
  refine wp_go (f' := (125, [.ref 24, .int (nI 9), .int x], [.ref 24], MW A B F sw, 0, 0)) 3 rfl ?_
  refine wp_call rfl rfl rfl (ev_up (ev_cJoin hC hR) (by decide)) ?_
  refine wp_eq (f' := (128, [.ref 24, .int (nI 9), .int x], [.long ((tabN (joinC nb) n (vp_updL (B 25) 0 0)) (2 ^ n - 1))], MW A (upB B 25 (tabN (joinC nb) n (vp_updL (B 25) 0 0))) F sw, 0, 0)) rfl ?_
  exact wp_lret rfl
theorem ev_cTell9 (hC : CI A F n nb) (hZ : CZ A) (hco : F 3 = F 2 → RI A n nb) (x : Int32)  : ∃ r4 r5 r6 : Nat → Int32, mv_Ev xs Ls 6 57 [.ref 24, .int (nI 9), .int x] (MW A B F sw) (some (.long ((tabN (joinC nb) n (vp_updL (B 25) 0 0)) (2 ^ n - 1))), MW (upA (upA (upA A 4 r4) 5 r5) 6 r6) (upB B 25 (tabN (joinC nb) n (vp_updL (B 25) 0 0))) (upF F 3 (F 2)) sw, 0, 0) ∧ RI (upA (upA (upA A 4 r4) 5 r5) 6 r6) n nb ∧ CZ (upA (upA (upA A 4 r4) 5 r5) 6 r6) := by
  obtain ⟨r4, r5, r6, hev, hR, hZ2⟩ := ev_rows_any (xs := xs) (Ls := Ls) (B := B) (sw := sw) hC hZ hco
  refine ⟨r4, r5, r6, ?_, hR, hZ2⟩
  refine ev_of_wp rfl rfl rfl ?_
  refine wp_go (f' := (4, [.ref 24, .int (nI 9), .int x], [.ref 1], MW A B F sw, 0, 0)) 2 rfl ?_
  refine wp_call rfl rfl rfl (ev_up hev (by decide)) ?_
  exact lq_cTell9 (A := (upA (upA (upA A 4 r4) 5 r5) 6 r6)) (F := upF F 3 (F 2)) hC hR x 
theorem ev_bTotal9 (hC : CI A F n nb) (hZ : CZ A) (hco : F 3 = F 2 → RI A n nb) (x : Int32)  : ∃ r4 r5 r6 : Nat → Int32, mv_Ev xs Ls 7 56 [.ref 0, .int (nI 9), .int x] (MW A B F sw) (some (.long ((tabN (joinC nb) n (vp_updL (B 25) 0 0)) (2 ^ n - 1))), MW (upA (upA (upA A 4 r4) 5 r5) 6 r6) (upB B 25 (tabN (joinC nb) n (vp_updL (B 25) 0 0))) (upF F 3 (F 2)) sw, 0, 0) ∧ RI (upA (upA (upA A 4 r4) 5 r5) 6 r6) n nb ∧ CZ (upA (upA (upA A 4 r4) 5 r5) 6 r6) := by
  obtain ⟨r4, r5, r6, hev, hR, hZ2⟩ := ev_cTell9 (xs := xs) (Ls := Ls) (B := B) (sw := sw) hC hZ hco x 
  refine ⟨r4, r5, r6, ?_, hR, hZ2⟩
  refine ev_of_wp rfl rfl rfl ?_
  refine wp_go (f' := ((if (nI 9) < 0 then 10 else 4), [.ref 0, .int (nI 9), .int x], [], MW A B F sw, 0, 0)) 2 rfl ?_
  refine wp_ite (fun h9 => absurd h9 (by decide)) (fun _ => ?_)
  refine wp_go (f' := ((if (nI 9) < (nI 14) then 14 else 10), [.ref 0, .int (nI 9), .int x], [], MW A B F sw, 0, 0)) 3 rfl ?_
  refine wp_ite (fun _ => ?_) (fun h9 => absurd (by decide) h9)
  refine wp_go (f' := ((if ¬ (nI 9) = (nI 1) then 33 else 19), [.ref 0, .int (nI 9), .int x], [], MW A B F sw, 0, 0)) 3 rfl ?_
  refine wp_ite (fun _ => ?_) (fun h9 => absurd (by decide) h9)
  refine wp_go (f' := (39, [.ref 0, .int (nI 9), .int x], [.int x, .int (nI 9), .ref 24], MW A B F sw, 0, 0)) 4 rfl ?_
  refine wp_call rfl rfl rfl (ev_up hev (by decide)) ?_
  refine wp_eq (f' := (42, [.ref 0, .int (nI 9), .int x], [.long ((tabN (joinC nb) n (vp_updL (B 25) 0 0)) (2 ^ n - 1))], MW (upA (upA (upA A 4 r4) 5 r5) 6 r6) (upB B 25 (tabN (joinC nb) n (vp_updL (B 25) 0 0))) (upF F 3 (F 2)) sw, 0, 0)) rfl ?_
  exact wp_lret rfl
theorem lq_cTell10 (hC : CI A F n nb) (hR : RI A n nb) (x : Int32)  : mv_Wp xs Ls 5 0 false (some .long) mv_c57 (7, [.ref 24, .int (nI 10), .int x], [], MW A B F sw, 0, 0) (some (.long (if 0 < (colN n nb (-1) (B 25, B 26) sw).2.1 then (colN n nb (-1) (B 25, B 26) sw).2.1 else -(colN n nb (-1) (B 25, B 26) sw).2.1)), MW A (upB (upB B 25 (colN n nb (-1) (B 25, B 26) sw).1.1) 26 (colN n nb (-1) (B 25, B 26) sw).1.2) F (colN n nb (-1) (B 25, B 26) sw).2.2, 0, 0) := by
  have hn := hC.1
  have hp := pow10 hn
  have hp1 : 1 ≤ 2 ^ n := Nat.one_le_two_pow
  have hal := all_lt hn
  refine wp_go (f' := (131, [.ref 24, .int (nI 10), .int x], [.int (-1), .ref 24], MW A B F sw, 0, 0)) 4 rfl ?_
  refine wp_call rfl rfl rfl (ev_up (ev_cCol hC hR (-1)) (by decide)) ?_
  refine wp_eq (f' := (134, [.ref 24, .int (nI 10), .int x], [.long ((colN n nb (-1) (B 25, B 26) sw).2.1)], MW A (upB (upB B 25 (colN n nb (-1) (B 25, B 26) sw).1.1) 26 (colN n nb (-1) (B 25, B 26) sw).1.2) F (colN n nb (-1) (B 25, B 26) sw).2.2, 0, 0)) rfl ?_
  refine wp_go (f' := (137, [.ref 24, .int (nI 10), .int x], [.long (if 0 < ((colN n nb (-1) (B 25, B 26) sw).2.1) then (colN n nb (-1) (B 25, B 26) sw).2.1 else -((colN n nb (-1) (B 25, B 26) sw).2.1))], MW A (upB (upB B 25 (colN n nb (-1) (B 25, B 26) sw).1.1) 26 (colN n nb (-1) (B 25, B 26) sw).1.2) F (colN n nb (-1) (B 25, B 26) sw).2.2, 0, 0)) 1 rfl ?_
  exact wp_lret rfl
theorem ev_cTell10 (hC : CI A F n nb) (hZ : CZ A) (hco : F 3 = F 2 → RI A n nb) (x : Int32)  : ∃ r4 r5 r6 : Nat → Int32, mv_Ev xs Ls 6 57 [.ref 24, .int (nI 10), .int x] (MW A B F sw) (some (.long (if 0 < (colN n nb (-1) (B 25, B 26) sw).2.1 then (colN n nb (-1) (B 25, B 26) sw).2.1 else -(colN n nb (-1) (B 25, B 26) sw).2.1)), MW (upA (upA (upA A 4 r4) 5 r5) 6 r6) (upB (upB B 25 (colN n nb (-1) (B 25, B 26) sw).1.1) 26 (colN n nb (-1) (B 25, B 26) sw).1.2) (upF F 3 (F 2)) (colN n nb (-1) (B 25, B 26) sw).2.2, 0, 0) ∧ RI (upA (upA (upA A 4 r4) 5 r5) 6 r6) n nb ∧ CZ (upA (upA (upA A 4 r4) 5 r5) 6 r6) := by
  obtain ⟨r4, r5, r6, hev, hR, hZ2⟩ := ev_rows_any (xs := xs) (Ls := Ls) (B := B) (sw := sw) hC hZ hco
  refine ⟨r4, r5, r6, ?_, hR, hZ2⟩
  refine ev_of_wp rfl rfl rfl ?_
  refine wp_go (f' := (4, [.ref 24, .int (nI 10), .int x], [.ref 1], MW A B F sw, 0, 0)) 2 rfl ?_
  refine wp_call rfl rfl rfl (ev_up hev (by decide)) ?_
  exact lq_cTell10 (A := (upA (upA (upA A 4 r4) 5 r5) 6 r6)) (F := upF F 3 (F 2)) hC hR x 
theorem ev_bTotal10 (hC : CI A F n nb) (hZ : CZ A) (hco : F 3 = F 2 → RI A n nb) (x : Int32)  : ∃ r4 r5 r6 : Nat → Int32, mv_Ev xs Ls 7 56 [.ref 0, .int (nI 10), .int x] (MW A B F sw) (some (.long (if 0 < (colN n nb (-1) (B 25, B 26) sw).2.1 then (colN n nb (-1) (B 25, B 26) sw).2.1 else -(colN n nb (-1) (B 25, B 26) sw).2.1)), MW (upA (upA (upA A 4 r4) 5 r5) 6 r6) (upB (upB B 25 (colN n nb (-1) (B 25, B 26) sw).1.1) 26 (colN n nb (-1) (B 25, B 26) sw).1.2) (upF F 3 (F 2)) (colN n nb (-1) (B 25, B 26) sw).2.2, 0, 0) ∧ RI (upA (upA (upA A 4 r4) 5 r5) 6 r6) n nb ∧ CZ (upA (upA (upA A 4 r4) 5 r5) 6 r6) := by
  obtain ⟨r4, r5, r6, hev, hR, hZ2⟩ := ev_cTell10 (xs := xs) (Ls := Ls) (B := B) (sw := sw) hC hZ hco x 
  refine ⟨r4, r5, r6, ?_, hR, hZ2⟩
  refine ev_of_wp rfl rfl rfl ?_
  refine wp_go (f' := ((if (nI 10) < 0 then 10 else 4), [.ref 0, .int (nI 10), .int x], [], MW A B F sw, 0, 0)) 2 rfl ?_
  refine wp_ite (fun h9 => absurd h9 (by decide)) (fun _ => ?_)
  refine wp_go (f' := ((if (nI 10) < (nI 14) then 14 else 10), [.ref 0, .int (nI 10), .int x], [], MW A B F sw, 0, 0)) 3 rfl ?_
  refine wp_ite (fun _ => ?_) (fun h9 => absurd (by decide) h9)
  refine wp_go (f' := ((if ¬ (nI 10) = (nI 1) then 33 else 19), [.ref 0, .int (nI 10), .int x], [], MW A B F sw, 0, 0)) 3 rfl ?_
  refine wp_ite (fun _ => ?_) (fun h9 => absurd (by decide) h9)
  refine wp_go (f' := (39, [.ref 0, .int (nI 10), .int x], [.int x, .int (nI 10), .ref 24], MW A B F sw, 0, 0)) 4 rfl ?_
  refine wp_call rfl rfl rfl (ev_up hev (by decide)) ?_
  refine wp_eq (f' := (42, [.ref 0, .int (nI 10), .int x], [.long (if 0 < (colN n nb (-1) (B 25, B 26) sw).2.1 then (colN n nb (-1) (B 25, B 26) sw).2.1 else -(colN n nb (-1) (B 25, B 26) sw).2.1)], MW (upA (upA (upA A 4 r4) 5 r5) 6 r6) (upB (upB B 25 (colN n nb (-1) (B 25, B 26) sw).1.1) 26 (colN n nb (-1) (B 25, B 26) sw).1.2) (upF F 3 (F 2)) (colN n nb (-1) (B 25, B 26) sw).2.2, 0, 0)) rfl ?_
  exact wp_lret rfl
theorem lq_cTell11 (hC : CI A F n nb) (hR : RI A n nb) (x : Int32)  : mv_Wp xs Ls 5 0 false (some .long) mv_c57 (7, [.ref 24, .int (nI 11), .int x], [], MW A B F sw, 0, 0) (some (.long (coverC n nb)), MW A B F sw, 0, 0) := by
  have hn := hC.1
  have hp := pow10 hn
  have hp1 : 1 ≤ 2 ^ n := Nat.one_le_two_pow
  have hal := all_lt hn
  refine wp_go (f' := (139, [.ref 24, .int (nI 11), .int x], [.ref 24], MW A B F sw, 0, 0)) 3 rfl ?_
  refine wp_call rfl rfl rfl (ev_up (ev_cCovers hC hR) (by decide)) ?_
  refine wp_eq (f' := (142, [.ref 24, .int (nI 11), .int x], [.long (coverC n nb)], MW A B F sw, 0, 0)) rfl ?_
  exact wp_lret rfl
theorem ev_cTell11 (hC : CI A F n nb) (hZ : CZ A) (hco : F 3 = F 2 → RI A n nb) (x : Int32)  : ∃ r4 r5 r6 : Nat → Int32, mv_Ev xs Ls 6 57 [.ref 24, .int (nI 11), .int x] (MW A B F sw) (some (.long (coverC n nb)), MW (upA (upA (upA A 4 r4) 5 r5) 6 r6) B (upF F 3 (F 2)) sw, 0, 0) ∧ RI (upA (upA (upA A 4 r4) 5 r5) 6 r6) n nb ∧ CZ (upA (upA (upA A 4 r4) 5 r5) 6 r6) := by
  obtain ⟨r4, r5, r6, hev, hR, hZ2⟩ := ev_rows_any (xs := xs) (Ls := Ls) (B := B) (sw := sw) hC hZ hco
  refine ⟨r4, r5, r6, ?_, hR, hZ2⟩
  refine ev_of_wp rfl rfl rfl ?_
  refine wp_go (f' := (4, [.ref 24, .int (nI 11), .int x], [.ref 1], MW A B F sw, 0, 0)) 2 rfl ?_
  refine wp_call rfl rfl rfl (ev_up hev (by decide)) ?_
  exact lq_cTell11 (A := (upA (upA (upA A 4 r4) 5 r5) 6 r6)) (F := upF F 3 (F 2)) hC hR x 
theorem ev_bTotal11 (hC : CI A F n nb) (hZ : CZ A) (hco : F 3 = F 2 → RI A n nb) (x : Int32)  : ∃ r4 r5 r6 : Nat → Int32, mv_Ev xs Ls 7 56 [.ref 0, .int (nI 11), .int x] (MW A B F sw) (some (.long (coverC n nb)), MW (upA (upA (upA A 4 r4) 5 r5) 6 r6) B (upF F 3 (F 2)) sw, 0, 0) ∧ RI (upA (upA (upA A 4 r4) 5 r5) 6 r6) n nb ∧ CZ (upA (upA (upA A 4 r4) 5 r5) 6 r6) := by
  obtain ⟨r4, r5, r6, hev, hR, hZ2⟩ := ev_cTell11 (xs := xs) (Ls := Ls) (B := B) (sw := sw) hC hZ hco x 
  refine ⟨r4, r5, r6, ?_, hR, hZ2⟩
  refine ev_of_wp rfl rfl rfl ?_
  refine wp_go (f' := ((if (nI 11) < 0 then 10 else 4), [.ref 0, .int (nI 11), .int x], [], MW A B F sw, 0, 0)) 2 rfl ?_
  refine wp_ite (fun h9 => absurd h9 (by decide)) (fun _ => ?_)
  refine wp_go (f' := ((if (nI 11) < (nI 14) then 14 else 10), [.ref 0, .int (nI 11), .int x], [], MW A B F sw, 0, 0)) 3 rfl ?_
  refine wp_ite (fun _ => ?_) (fun h9 => absurd (by decide) h9)
  refine wp_go (f' := ((if ¬ (nI 11) = (nI 1) then 33 else 19), [.ref 0, .int (nI 11), .int x], [], MW A B F sw, 0, 0)) 3 rfl ?_
  refine wp_ite (fun _ => ?_) (fun h9 => absurd (by decide) h9)
  refine wp_go (f' := (39, [.ref 0, .int (nI 11), .int x], [.int x, .int (nI 11), .ref 24], MW A B F sw, 0, 0)) 4 rfl ?_
  refine wp_call rfl rfl rfl (ev_up hev (by decide)) ?_
  refine wp_eq (f' := (42, [.ref 0, .int (nI 11), .int x], [.long (coverC n nb)], MW (upA (upA (upA A 4 r4) 5 r5) 6 r6) B (upF F 3 (F 2)) sw, 0, 0)) rfl ?_
  exact wp_lret rfl
theorem lq_cTell12 (hC : CI A F n nb) (hR : RI A n nb) (x : Int32)  : mv_Wp xs Ls 5 0 false (some .long) mv_c57 (7, [.ref 24, .int (nI 12), .int x], [], MW A B F sw, 0, 0) (some (.long (wholeC n nb)), MW A B F sw, 0, 0) := by
  have hn := hC.1
  have hp := pow10 hn
  have hp1 : 1 ≤ 2 ^ n := Nat.one_le_two_pow
  have hal := all_lt hn
  refine wp_go (f' := (144, [.ref 24, .int (nI 12), .int x], [.ref 24], MW A B F sw, 0, 0)) 3 rfl ?_
  refine wp_call rfl rfl rfl (ev_up (ev_cWhole hC hR) (by decide)) ?_
  refine wp_eq (f' := (147, [.ref 24, .int (nI 12), .int x], [.long (wholeC n nb)], MW A B F sw, 0, 0)) rfl ?_
  exact wp_lret rfl
theorem ev_cTell12 (hC : CI A F n nb) (hZ : CZ A) (hco : F 3 = F 2 → RI A n nb) (x : Int32)  : ∃ r4 r5 r6 : Nat → Int32, mv_Ev xs Ls 6 57 [.ref 24, .int (nI 12), .int x] (MW A B F sw) (some (.long (wholeC n nb)), MW (upA (upA (upA A 4 r4) 5 r5) 6 r6) B (upF F 3 (F 2)) sw, 0, 0) ∧ RI (upA (upA (upA A 4 r4) 5 r5) 6 r6) n nb ∧ CZ (upA (upA (upA A 4 r4) 5 r5) 6 r6) := by
  obtain ⟨r4, r5, r6, hev, hR, hZ2⟩ := ev_rows_any (xs := xs) (Ls := Ls) (B := B) (sw := sw) hC hZ hco
  refine ⟨r4, r5, r6, ?_, hR, hZ2⟩
  refine ev_of_wp rfl rfl rfl ?_
  refine wp_go (f' := (4, [.ref 24, .int (nI 12), .int x], [.ref 1], MW A B F sw, 0, 0)) 2 rfl ?_
  refine wp_call rfl rfl rfl (ev_up hev (by decide)) ?_
  exact lq_cTell12 (A := (upA (upA (upA A 4 r4) 5 r5) 6 r6)) (F := upF F 3 (F 2)) hC hR x 
theorem ev_bTotal12 (hC : CI A F n nb) (hZ : CZ A) (hco : F 3 = F 2 → RI A n nb) (x : Int32)  : ∃ r4 r5 r6 : Nat → Int32, mv_Ev xs Ls 7 56 [.ref 0, .int (nI 12), .int x] (MW A B F sw) (some (.long (wholeC n nb)), MW (upA (upA (upA A 4 r4) 5 r5) 6 r6) B (upF F 3 (F 2)) sw, 0, 0) ∧ RI (upA (upA (upA A 4 r4) 5 r5) 6 r6) n nb ∧ CZ (upA (upA (upA A 4 r4) 5 r5) 6 r6) := by
  obtain ⟨r4, r5, r6, hev, hR, hZ2⟩ := ev_cTell12 (xs := xs) (Ls := Ls) (B := B) (sw := sw) hC hZ hco x 
  refine ⟨r4, r5, r6, ?_, hR, hZ2⟩
  refine ev_of_wp rfl rfl rfl ?_
  refine wp_go (f' := ((if (nI 12) < 0 then 10 else 4), [.ref 0, .int (nI 12), .int x], [], MW A B F sw, 0, 0)) 2 rfl ?_
  refine wp_ite (fun h9 => absurd h9 (by decide)) (fun _ => ?_)
  refine wp_go (f' := ((if (nI 12) < (nI 14) then 14 else 10), [.ref 0, .int (nI 12), .int x], [], MW A B F sw, 0, 0)) 3 rfl ?_
  refine wp_ite (fun _ => ?_) (fun h9 => absurd (by decide) h9)
  refine wp_go (f' := ((if ¬ (nI 12) = (nI 1) then 33 else 19), [.ref 0, .int (nI 12), .int x], [], MW A B F sw, 0, 0)) 3 rfl ?_
  refine wp_ite (fun _ => ?_) (fun h9 => absurd (by decide) h9)
  refine wp_go (f' := (39, [.ref 0, .int (nI 12), .int x], [.int x, .int (nI 12), .ref 24], MW A B F sw, 0, 0)) 4 rfl ?_
  refine wp_call rfl rfl rfl (ev_up hev (by decide)) ?_
  refine wp_eq (f' := (42, [.ref 0, .int (nI 12), .int x], [.long (wholeC n nb)], MW (upA (upA (upA A 4 r4) 5 r5) 6 r6) B (upF F 3 (F 2)) sw, 0, 0)) rfl ?_
  exact wp_lret rfl
theorem lq_cTell13 (hC : CI A F n nb) (hR : RI A n nb) (x : Int32) {ed : Nat} (hE : F 1 = nI ed) (h3 : F 3 = F 2) : mv_Wp xs Ls 5 0 false (some .long) mv_c57 (7, [.ref 24, .int (nI 13), .int x], [], MW A B F sw, 0, 0) (some (.long (1 <<< (((nI ed - nI n) + nI (cprN n nb)).toInt64 &&& 63))), MW A B F sw, 0, 0) := by
  have hn := hC.1
  have hp := pow10 hn
  have hp1 : 1 ≤ 2 ^ n := Nat.one_le_two_pow
  have hal := all_lt hn
  refine wp_go (f' := (149, [.ref 24, .int (nI 13), .int x], [.ref 24], MW A B F sw, 0, 0)) 3 rfl ?_
  refine wp_call rfl rfl rfl (ev_up (ev_cEven hC hR hE h3) (by decide)) ?_
  refine wp_eq (f' := (152, [.ref 24, .int (nI 13), .int x], [.long (1 <<< (((nI ed - nI n) + nI (cprN n nb)).toInt64 &&& 63))], MW A B F sw, 0, 0)) rfl ?_
  exact wp_lret rfl
theorem ev_cTell13 (hC : CI A F n nb) (hZ : CZ A) (hco : F 3 = F 2 → RI A n nb) (x : Int32) {ed : Nat} (hE : F 1 = nI ed) : ∃ r4 r5 r6 : Nat → Int32, mv_Ev xs Ls 6 57 [.ref 24, .int (nI 13), .int x] (MW A B F sw) (some (.long (1 <<< (((nI ed - nI n) + nI (cprN n nb)).toInt64 &&& 63))), MW (upA (upA (upA A 4 r4) 5 r5) 6 r6) B (upF F 3 (F 2)) sw, 0, 0) ∧ RI (upA (upA (upA A 4 r4) 5 r5) 6 r6) n nb ∧ CZ (upA (upA (upA A 4 r4) 5 r5) 6 r6) := by
  obtain ⟨r4, r5, r6, hev, hR, hZ2⟩ := ev_rows_any (xs := xs) (Ls := Ls) (B := B) (sw := sw) hC hZ hco
  refine ⟨r4, r5, r6, ?_, hR, hZ2⟩
  refine ev_of_wp rfl rfl rfl ?_
  refine wp_go (f' := (4, [.ref 24, .int (nI 13), .int x], [.ref 1], MW A B F sw, 0, 0)) 2 rfl ?_
  refine wp_call rfl rfl rfl (ev_up hev (by decide)) ?_
  exact lq_cTell13 (A := (upA (upA (upA A 4 r4) 5 r5) 6 r6)) (F := upF F 3 (F 2)) hC hR x hE rfl
theorem ev_bTotal13 (hC : CI A F n nb) (hZ : CZ A) (hco : F 3 = F 2 → RI A n nb) (x : Int32) {ed : Nat} (hE : F 1 = nI ed) : ∃ r4 r5 r6 : Nat → Int32, mv_Ev xs Ls 7 56 [.ref 0, .int (nI 13), .int x] (MW A B F sw) (some (.long (1 <<< (((nI ed - nI n) + nI (cprN n nb)).toInt64 &&& 63))), MW (upA (upA (upA A 4 r4) 5 r5) 6 r6) B (upF F 3 (F 2)) sw, 0, 0) ∧ RI (upA (upA (upA A 4 r4) 5 r5) 6 r6) n nb ∧ CZ (upA (upA (upA A 4 r4) 5 r5) 6 r6) := by
  obtain ⟨r4, r5, r6, hev, hR, hZ2⟩ := ev_cTell13 (xs := xs) (Ls := Ls) (B := B) (sw := sw) hC hZ hco x hE
  refine ⟨r4, r5, r6, ?_, hR, hZ2⟩
  refine ev_of_wp rfl rfl rfl ?_
  refine wp_go (f' := ((if (nI 13) < 0 then 10 else 4), [.ref 0, .int (nI 13), .int x], [], MW A B F sw, 0, 0)) 2 rfl ?_
  refine wp_ite (fun h9 => absurd h9 (by decide)) (fun _ => ?_)
  refine wp_go (f' := ((if (nI 13) < (nI 14) then 14 else 10), [.ref 0, .int (nI 13), .int x], [], MW A B F sw, 0, 0)) 3 rfl ?_
  refine wp_ite (fun _ => ?_) (fun h9 => absurd (by decide) h9)
  refine wp_go (f' := ((if ¬ (nI 13) = (nI 1) then 33 else 19), [.ref 0, .int (nI 13), .int x], [], MW A B F sw, 0, 0)) 3 rfl ?_
  refine wp_ite (fun _ => ?_) (fun h9 => absurd (by decide) h9)
  refine wp_go (f' := (39, [.ref 0, .int (nI 13), .int x], [.int x, .int (nI 13), .ref 24], MW A B F sw, 0, 0)) 4 rfl ?_
  refine wp_call rfl rfl rfl (ev_up hev (by decide)) ?_
  refine wp_eq (f' := (42, [.ref 0, .int (nI 13), .int x], [.long (1 <<< (((nI ed - nI n) + nI (cprN n nb)).toInt64 &&& 63))], MW (upA (upA (upA A 4 r4) 5 r5) 6 r6) B (upF F 3 (F 2)) sw, 0, 0)) rfl ?_
  exact wp_lret rfl
theorem ev_bTotal_f1 {x y : Int32} (hx : x < 0) : mv_Ev xs Ls 1 56 [.ref 0, .int x, .int y] (MW A B F sw) (some (.long (-2)), MW A B F sw, 0, 0) := by
  refine ev_of_wp rfl rfl rfl ?_
  refine wp_go (f' := ((if x < 0 then 10 else 4), [.ref 0, .int x, .int y], [], MW A B F sw, 0, 0)) 2 rfl ?_
  refine wp_ite (fun _ => ?_) (fun h9 => absurd hx h9)
  refine wp_go (f' := (13, [.ref 0, .int x, .int y], [.long (-2)], MW A B F sw, 0, 0)) 1 rfl ?_
  exact wp_lret rfl
theorem ev_bTotal_f2 {x y : Int32} (hx : ¬ x < 0) (hx2 : ¬ x < nI 14) : mv_Ev xs Ls 1 56 [.ref 0, .int x, .int y] (MW A B F sw) (some (.long (-2)), MW A B F sw, 0, 0) := by
  refine ev_of_wp rfl rfl rfl ?_
  refine wp_go (f' := ((if x < 0 then 10 else 4), [.ref 0, .int x, .int y], [], MW A B F sw, 0, 0)) 2 rfl ?_
  refine wp_ite (fun h9 => absurd h9 hx) (fun _ => ?_)
  refine wp_go (f' := ((if x < (nI 14) then 14 else 10), [.ref 0, .int x, .int y], [], MW A B F sw, 0, 0)) 3 rfl ?_
  refine wp_ite (fun h9 => absurd h9 hx2) (fun _ => ?_)
  refine wp_go (f' := (13, [.ref 0, .int x, .int y], [.long (-2)], MW A B F sw, 0, 0)) 1 rfl ?_
  exact wp_lret rfl
theorem ev_bTotal_f3 {y : Int32} (hy : y < 0) : mv_Ev xs Ls 1 56 [.ref 0, .int (nI 1), .int y] (MW A B F sw) (some (.long (-2)), MW A B F sw, 0, 0) := by
  refine ev_of_wp rfl rfl rfl ?_
  refine wp_go (f' := ((if (nI 1) < 0 then 10 else 4), [.ref 0, .int (nI 1), .int y], [], MW A B F sw, 0, 0)) 2 rfl ?_
  refine wp_ite (fun h9 => absurd h9 (by decide)) (fun _ => ?_)
  refine wp_go (f' := ((if (nI 1) < (nI 14) then 14 else 10), [.ref 0, .int (nI 1), .int y], [], MW A B F sw, 0, 0)) 3 rfl ?_
  refine wp_ite (fun _ => ?_) (fun h9 => absurd (by decide) h9)
  refine wp_go (f' := ((if ¬ (nI 1) = (nI 1) then 33 else 19), [.ref 0, .int (nI 1), .int y], [], MW A B F sw, 0, 0)) 3 rfl ?_
  refine wp_ite (fun h9 => absurd h9 (fun h => h rfl)) (fun _ => ?_)
  refine wp_go (f' := ((if y < 0 then 29 else 23), [.ref 0, .int (nI 1), .int y], [], MW A B F sw, 0, 0)) 2 rfl ?_
  refine wp_ite (fun _ => ?_) (fun h9 => absurd hy h9)
  refine wp_go (f' := (32, [.ref 0, .int (nI 1), .int y], [.long (-2)], MW A B F sw, 0, 0)) 1 rfl ?_
  exact wp_lret rfl
theorem ev_bTotal_f4 {y : Int32} (hy : ¬ y < 0) (hy2 : ¬ y ≤ nI 10) : mv_Ev xs Ls 1 56 [.ref 0, .int (nI 1), .int y] (MW A B F sw) (some (.long (-2)), MW A B F sw, 0, 0) := by
  refine ev_of_wp rfl rfl rfl ?_
  refine wp_go (f' := ((if (nI 1) < 0 then 10 else 4), [.ref 0, .int (nI 1), .int y], [], MW A B F sw, 0, 0)) 2 rfl ?_
  refine wp_ite (fun h9 => absurd h9 (by decide)) (fun _ => ?_)
  refine wp_go (f' := ((if (nI 1) < (nI 14) then 14 else 10), [.ref 0, .int (nI 1), .int y], [], MW A B F sw, 0, 0)) 3 rfl ?_
  refine wp_ite (fun _ => ?_) (fun h9 => absurd (by decide) h9)
  refine wp_go (f' := ((if ¬ (nI 1) = (nI 1) then 33 else 19), [.ref 0, .int (nI 1), .int y], [], MW A B F sw, 0, 0)) 3 rfl ?_
  refine wp_ite (fun h9 => absurd h9 (fun h => h rfl)) (fun _ => ?_)
  refine wp_go (f' := ((if y < 0 then 29 else 23), [.ref 0, .int (nI 1), .int y], [], MW A B F sw, 0, 0)) 2 rfl ?_
  refine wp_ite (fun h9 => absurd h9 hy) (fun _ => ?_)
  refine wp_go (f' := ((if y ≤ (nI 10) then 33 else 29), [.ref 0, .int (nI 1), .int y], [], MW A B F sw, 0, 0)) 3 rfl ?_
  refine wp_ite (fun h9 => absurd h9 hy2) (fun _ => ?_)
  refine wp_go (f' := (32, [.ref 0, .int (nI 1), .int y], [.long (-2)], MW A B F sw, 0, 0)) 1 rfl ?_
  exact wp_lret rfl
end CC
