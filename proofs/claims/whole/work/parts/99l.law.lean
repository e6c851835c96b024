/-! the law's loop -/
section LAW
variable {xs : Nat → Int32} {Ls : Nat}
theorem wp_sc {d cls : Nat} {ini : Bool} {ret : Option FieldType} {code : List (Nat × Instr × Nat)} {pc : Nat} {L st : List Value} {w : mv_W} {c k : Nat} {r : mv_R} {i : Nat} (hg : mv_get code pc = some (.iaload, 1)) (hi : i < Ls) (hm : Ls ≤ 1048576) (kk : mv_Wp xs Ls d cls ini ret code (pc + 1, L, .int (xs i) :: st, w, c, k) r) : mv_Wp xs Ls d cls ini ret code (pc, L, .int (nI i) :: .retAddr 1 :: st, w, c, k) r := by
  refine wp_go 1 ?_ kk
  have hc := nI_clamp (show i < 2 ^ 31 by omega)
  have hx := nI_idx hi hm
  rw [hc] at hx
  unfold mv_gos
  dsimp only
  rw [hg]
  simp only [mv_one, mv_alu, mv_loc, mv_br, mv_heap, hc, if_neg hx]
  rfl
theorem nI_2 (i : Nat) : nI i + 2 = nI (i + 2) := nI_add i 2
theorem nI_3 (i : Nat) : nI i + 3 = nI (i + 3) := nI_add i 3
/-- what the loop's body leads to -/
def LB (xs : Nat → Int32) (Ls : Nat) (pc i : Nat) (A : Nat → Nat → Int32) (B : Nat → Nat → Int64) (F : Nat → Int32) (sw : Bool) (c : Nat) : Prop := ∃ (A2 : Nat → Nat → Int32) (B2 : Nat → Nat → Int64) (F2 : Nat → Int32) (sw2 : Bool) (n : Nat) (nb : Nat → Nat) (ed : Nat) (wt : Nat → Nat), INV A2 F2 n nb ed wt (c + 1) ∧ ∀ r, mv_Wp xs Ls 20 7 false (some .boolean) mv_c138 (514, [.retAddr 1, .ref 0, .ref 28, .int (nI i)], [], MW A2 B2 F2 sw2, 42, 27475) r → mv_Wp xs Ls 20 7 false (some .boolean) mv_c138 (pc, [.retAddr 1, .ref 0, .ref 28, .int (nI i)], [], MW A B F sw, 42, 27475) r
variable {A : Nat → Nat → Int32} {B : Nat → Nat → Int64} {F : Nat → Int32} {sw : Bool} {c i : Nat}
set_option maxRecDepth 40000 in
theorem lz_0 (hi : i + 3 ≤ Ls) (hL : Ls ≤ 1536) (h : PRI xs Ls 6 84 [.int (xs (i + 1))] A B F sw c) : LB xs Ls 108 i A B F sw c := by
  obtain ⟨x, A1, B1, F1, sw1, A2, B2, F2, sw2, n, nb, ed, wt, h1, h2, I⟩ := h
  refine ⟨A2, B2, F2, sw2, n, nb, ed, wt, I, fun r kk => ?_⟩
  refine wp_go (f' := (109, [.retAddr 1, .ref 0, .ref 28, .int (nI i)], [.ref 0], MW A B F sw, 42, 27475)) 1 rfl ?_
  refine wp_go (f' := (113, [.retAddr 1, .ref 0, .ref 28, .int (nI i)], [.int (nI i + 1), .retAddr 1, .ref 0], MW A B F sw, 42, 27475)) 4 rfl ?_
  rw [nI_1]
  refine wp_sc rfl (by omega) (by omega) ?_
  refine wp_call rfl rfl rfl (ev_up h1 (by omega)) ?_
  refine wp_go (f' := (118, [.retAddr 1, .ref 0, .ref 28, .int (nI i)], [.ref 28, .int x], MW A1 B1 F1 sw1, 42, 27475)) 1 rfl ?_
  refine wp_go (f' := (122, [.retAddr 1, .ref 0, .ref 28, .int (nI i)], [.int (nI i + 1), .retAddr 1, .ref 28, .int x], MW A1 B1 F1 sw1, 42, 27475)) 4 rfl ?_
  rw [nI_1]
  refine wp_sc rfl (by omega) (by omega) ?_
  refine wp_call rfl rfl rfl (ev_up h2 (by omega)) ?_
  refine wp_go (f' := ((if x = x then 514 else 129), [.retAddr 1, .ref 0, .ref 28, .int (nI i)], [], MW A2 B2 F2 sw2, 42, 27475)) 1 rfl ?_
  rw [if_pos rfl]
  exact kk
set_option maxRecDepth 40000 in
theorem lz_1 (hi : i + 3 ≤ Ls) (hL : Ls ≤ 1536) (h : PRI xs Ls 8 86 [.int (xs (i + 1)), .int (xs (i + 2))] A B F sw c) : LB xs Ls 131 i A B F sw c := by
  obtain ⟨x, A1, B1, F1, sw1, A2, B2, F2, sw2, n, nb, ed, wt, h1, h2, I⟩ := h
  refine ⟨A2, B2, F2, sw2, n, nb, ed, wt, I, fun r kk => ?_⟩
  refine wp_go (f' := (132, [.retAddr 1, .ref 0, .ref 28, .int (nI i)], [.ref 0], MW A B F sw, 42, 27475)) 1 rfl ?_
  refine wp_go (f' := (136, [.retAddr 1, .ref 0, .ref 28, .int (nI i)], [.int (nI i + 1), .retAddr 1, .ref 0], MW A B F sw, 42, 27475)) 4 rfl ?_
  rw [nI_1]
  refine wp_sc rfl (by omega) (by omega) ?_
  refine wp_go (f' := (141, [.retAddr 1, .ref 0, .ref 28, .int (nI i)], [.int (nI i + 2), .retAddr 1, .int (xs (i + 1)), .ref 0], MW A B F sw, 42, 27475)) 4 rfl ?_
  rw [nI_2]
  refine wp_sc rfl (by omega) (by omega) ?_
  refine wp_call rfl rfl rfl (ev_up h1 (by omega)) ?_
  refine wp_go (f' := (146, [.retAddr 1, .ref 0, .ref 28, .int (nI i)], [.ref 28, .int x], MW A1 B1 F1 sw1, 42, 27475)) 1 rfl ?_
  refine wp_go (f' := (150, [.retAddr 1, .ref 0, .ref 28, .int (nI i)], [.int (nI i + 1), .retAddr 1, .ref 28, .int x], MW A1 B1 F1 sw1, 42, 27475)) 4 rfl ?_
  rw [nI_1]
  refine wp_sc rfl (by omega) (by omega) ?_
  refine wp_go (f' := (155, [.retAddr 1, .ref 0, .ref 28, .int (nI i)], [.int (nI i + 2), .retAddr 1, .int (xs (i + 1)), .ref 28, .int x], MW A1 B1 F1 sw1, 42, 27475)) 4 rfl ?_
  rw [nI_2]
  refine wp_sc rfl (by omega) (by omega) ?_
  refine wp_call rfl rfl rfl (ev_up h2 (by omega)) ?_
  refine wp_go (f' := ((if x = x then 514 else 162), [.retAddr 1, .ref 0, .ref 28, .int (nI i)], [], MW A2 B2 F2 sw2, 42, 27475)) 1 rfl ?_
  rw [if_pos rfl]
  exact kk
set_option maxRecDepth 40000 in
theorem lz_2 (hi : i + 3 ≤ Ls) (hL : Ls ≤ 1536) (h : PRI xs Ls 12 89 [.int (xs (i + 1)), .int (xs (i + 2))] A B F sw c) : LB xs Ls 164 i A B F sw c := by
  obtain ⟨x, A1, B1, F1, sw1, A2, B2, F2, sw2, n, nb, ed, wt, h1, h2, I⟩ := h
  refine ⟨A2, B2, F2, sw2, n, nb, ed, wt, I, fun r kk => ?_⟩
  refine wp_go (f' := (165, [.retAddr 1, .ref 0, .ref 28, .int (nI i)], [.ref 0], MW A B F sw, 42, 27475)) 1 rfl ?_
  refine wp_go (f' := (169, [.retAddr 1, .ref 0, .ref 28, .int (nI i)], [.int (nI i + 1), .retAddr 1, .ref 0], MW A B F sw, 42, 27475)) 4 rfl ?_
  rw [nI_1]
  refine wp_sc rfl (by omega) (by omega) ?_
  refine wp_go (f' := (174, [.retAddr 1, .ref 0, .ref 28, .int (nI i)], [.int (nI i + 2), .retAddr 1, .int (xs (i + 1)), .ref 0], MW A B F sw, 42, 27475)) 4 rfl ?_
  rw [nI_2]
  refine wp_sc rfl (by omega) (by omega) ?_
  refine wp_call rfl rfl rfl (ev_up h1 (by omega)) ?_
  refine wp_go (f' := (179, [.retAddr 1, .ref 0, .ref 28, .int (nI i)], [.ref 28, .int x], MW A1 B1 F1 sw1, 42, 27475)) 1 rfl ?_
  refine wp_go (f' := (183, [.retAddr 1, .ref 0, .ref 28, .int (nI i)], [.int (nI i + 1), .retAddr 1, .ref 28, .int x], MW A1 B1 F1 sw1, 42, 27475)) 4 rfl ?_
  rw [nI_1]
  refine wp_sc rfl (by omega) (by omega) ?_
  refine wp_go (f' := (188, [.retAddr 1, .ref 0, .ref 28, .int (nI i)], [.int (nI i + 2), .retAddr 1, .int (xs (i + 1)), .ref 28, .int x], MW A1 B1 F1 sw1, 42, 27475)) 4 rfl ?_
  rw [nI_2]
  refine wp_sc rfl (by omega) (by omega) ?_
  refine wp_call rfl rfl rfl (ev_up h2 (by omega)) ?_
  refine wp_go (f' := ((if x = x then 514 else 195), [.retAddr 1, .ref 0, .ref 28, .int (nI i)], [], MW A2 B2 F2 sw2, 42, 27475)) 1 rfl ?_
  rw [if_pos rfl]
  exact kk
set_option maxRecDepth 40000 in
theorem lz_3 (hi : i + 3 ≤ Ls) (hL : Ls ≤ 1536) (h : PRI xs Ls 14 90 [.int (xs (i + 1)), .int (xs (i + 2))] A B F sw c) : LB xs Ls 197 i A B F sw c := by
  obtain ⟨x, A1, B1, F1, sw1, A2, B2, F2, sw2, n, nb, ed, wt, h1, h2, I⟩ := h
  refine ⟨A2, B2, F2, sw2, n, nb, ed, wt, I, fun r kk => ?_⟩
  refine wp_go (f' := (198, [.retAddr 1, .ref 0, .ref 28, .int (nI i)], [.ref 0], MW A B F sw, 42, 27475)) 1 rfl ?_
  refine wp_go (f' := (202, [.retAddr 1, .ref 0, .ref 28, .int (nI i)], [.int (nI i + 1), .retAddr 1, .ref 0], MW A B F sw, 42, 27475)) 4 rfl ?_
  rw [nI_1]
  refine wp_sc rfl (by omega) (by omega) ?_
  refine wp_go (f' := (207, [.retAddr 1, .ref 0, .ref 28, .int (nI i)], [.int (nI i + 2), .retAddr 1, .int (xs (i + 1)), .ref 0], MW A B F sw, 42, 27475)) 4 rfl ?_
  rw [nI_2]
  refine wp_sc rfl (by omega) (by omega) ?_
  refine wp_call rfl rfl rfl (ev_up h1 (by omega)) ?_
  refine wp_go (f' := (212, [.retAddr 1, .ref 0, .ref 28, .int (nI i)], [.ref 28, .int x], MW A1 B1 F1 sw1, 42, 27475)) 1 rfl ?_
  refine wp_go (f' := (216, [.retAddr 1, .ref 0, .ref 28, .int (nI i)], [.int (nI i + 1), .retAddr 1, .ref 28, .int x], MW A1 B1 F1 sw1, 42, 27475)) 4 rfl ?_
  rw [nI_1]
  refine wp_sc rfl (by omega) (by omega) ?_
  refine wp_go (f' := (221, [.retAddr 1, .ref 0, .ref 28, .int (nI i)], [.int (nI i + 2), .retAddr 1, .int (xs (i + 1)), .ref 28, .int x], MW A1 B1 F1 sw1, 42, 27475)) 4 rfl ?_
  rw [nI_2]
  refine wp_sc rfl (by omega) (by omega) ?_
  refine wp_call rfl rfl rfl (ev_up h2 (by omega)) ?_
  refine wp_go (f' := ((if x = x then 514 else 228), [.retAddr 1, .ref 0, .ref 28, .int (nI i)], [], MW A2 B2 F2 sw2, 42, 27475)) 1 rfl ?_
  rw [if_pos rfl]
  exact kk
set_option maxRecDepth 40000 in
theorem lz_4 (hi : i + 3 ≤ Ls) (hL : Ls ≤ 1536) (h : PRI xs Ls 15 92 [.int (xs (i + 1))] A B F sw c) : LB xs Ls 230 i A B F sw c := by
  obtain ⟨x, A1, B1, F1, sw1, A2, B2, F2, sw2, n, nb, ed, wt, h1, h2, I⟩ := h
  refine ⟨A2, B2, F2, sw2, n, nb, ed, wt, I, fun r kk => ?_⟩
  refine wp_go (f' := (231, [.retAddr 1, .ref 0, .ref 28, .int (nI i)], [.ref 0], MW A B F sw, 42, 27475)) 1 rfl ?_
  refine wp_go (f' := (235, [.retAddr 1, .ref 0, .ref 28, .int (nI i)], [.int (nI i + 1), .retAddr 1, .ref 0], MW A B F sw, 42, 27475)) 4 rfl ?_
  rw [nI_1]
  refine wp_sc rfl (by omega) (by omega) ?_
  refine wp_call rfl rfl rfl (ev_up h1 (by omega)) ?_
  refine wp_go (f' := (240, [.retAddr 1, .ref 0, .ref 28, .int (nI i)], [.ref 28, .int x], MW A1 B1 F1 sw1, 42, 27475)) 1 rfl ?_
  refine wp_go (f' := (244, [.retAddr 1, .ref 0, .ref 28, .int (nI i)], [.int (nI i + 1), .retAddr 1, .ref 28, .int x], MW A1 B1 F1 sw1, 42, 27475)) 4 rfl ?_
  rw [nI_1]
  refine wp_sc rfl (by omega) (by omega) ?_
  refine wp_call rfl rfl rfl (ev_up h2 (by omega)) ?_
  refine wp_go (f' := ((if x = x then 514 else 251), [.retAddr 1, .ref 0, .ref 28, .int (nI i)], [], MW A2 B2 F2 sw2, 42, 27475)) 1 rfl ?_
  rw [if_pos rfl]
  exact kk
set_option maxRecDepth 40000 in
theorem lz_5 (hi : i + 3 ≤ Ls) (hL : Ls ≤ 1536) (h : PRI xs Ls 29 91 [.int (xs (i + 1))] A B F sw c) : LB xs Ls 253 i A B F sw c := by
  obtain ⟨x, A1, B1, F1, sw1, A2, B2, F2, sw2, n, nb, ed, wt, h1, h2, I⟩ := h
  refine ⟨A2, B2, F2, sw2, n, nb, ed, wt, I, fun r kk => ?_⟩
  refine wp_go (f' := (254, [.retAddr 1, .ref 0, .ref 28, .int (nI i)], [.ref 0], MW A B F sw, 42, 27475)) 1 rfl ?_
  refine wp_go (f' := (258, [.retAddr 1, .ref 0, .ref 28, .int (nI i)], [.int (nI i + 1), .retAddr 1, .ref 0], MW A B F sw, 42, 27475)) 4 rfl ?_
  rw [nI_1]
  refine wp_sc rfl (by omega) (by omega) ?_
  refine wp_call rfl rfl rfl (ev_up h1 (by omega)) ?_
  refine wp_go (f' := (263, [.retAddr 1, .ref 0, .ref 28, .int (nI i)], [.ref 28, .int x], MW A1 B1 F1 sw1, 42, 27475)) 1 rfl ?_
  refine wp_go (f' := (267, [.retAddr 1, .ref 0, .ref 28, .int (nI i)], [.int (nI i + 1), .retAddr 1, .ref 28, .int x], MW A1 B1 F1 sw1, 42, 27475)) 4 rfl ?_
  rw [nI_1]
  refine wp_sc rfl (by omega) (by omega) ?_
  refine wp_call rfl rfl rfl (ev_up h2 (by omega)) ?_
  refine wp_go (f' := ((if x = x then 514 else 274), [.retAddr 1, .ref 0, .ref 28, .int (nI i)], [], MW A2 B2 F2 sw2, 42, 27475)) 1 rfl ?_
  rw [if_pos rfl]
  exact kk
set_option maxRecDepth 40000 in
theorem lz_6 (hi : i + 3 ≤ Ls) (hL : Ls ≤ 1536) (h : PRI xs Ls 30 106 [.int (xs (i + 1))] A B F sw c) : LB xs Ls 276 i A B F sw c := by
  obtain ⟨x, A1, B1, F1, sw1, A2, B2, F2, sw2, n, nb, ed, wt, h1, h2, I⟩ := h
  refine ⟨A2, B2, F2, sw2, n, nb, ed, wt, I, fun r kk => ?_⟩
  refine wp_go (f' := (277, [.retAddr 1, .ref 0, .ref 28, .int (nI i)], [.ref 0], MW A B F sw, 42, 27475)) 1 rfl ?_
  refine wp_go (f' := (281, [.retAddr 1, .ref 0, .ref 28, .int (nI i)], [.int (nI i + 1), .retAddr 1, .ref 0], MW A B F sw, 42, 27475)) 4 rfl ?_
  rw [nI_1]
  refine wp_sc rfl (by omega) (by omega) ?_
  refine wp_call rfl rfl rfl (ev_up h1 (by omega)) ?_
  refine wp_go (f' := (286, [.retAddr 1, .ref 0, .ref 28, .int (nI i)], [.ref 28, .int x], MW A1 B1 F1 sw1, 42, 27475)) 1 rfl ?_
  refine wp_go (f' := (290, [.retAddr 1, .ref 0, .ref 28, .int (nI i)], [.int (nI i + 1), .retAddr 1, .ref 28, .int x], MW A1 B1 F1 sw1, 42, 27475)) 4 rfl ?_
  rw [nI_1]
  refine wp_sc rfl (by omega) (by omega) ?_
  refine wp_call rfl rfl rfl (ev_up h2 (by omega)) ?_
  refine wp_go (f' := ((if x = x then 514 else 297), [.retAddr 1, .ref 0, .ref 28, .int (nI i)], [], MW A2 B2 F2 sw2, 42, 27475)) 1 rfl ?_
  rw [if_pos rfl]
  exact kk
set_option maxRecDepth 40000 in
theorem lz_7 (hi : i + 3 ≤ Ls) (hL : Ls ≤ 1536) (h : PRI xs Ls 47 118 [.int (xs (i + 1)), .int (xs (i + 2))] A B F sw c) : LB xs Ls 299 i A B F sw c := by
  obtain ⟨x, A1, B1, F1, sw1, A2, B2, F2, sw2, n, nb, ed, wt, h1, h2, I⟩ := h
  refine ⟨A2, B2, F2, sw2, n, nb, ed, wt, I, fun r kk => ?_⟩
  refine wp_go (f' := (300, [.retAddr 1, .ref 0, .ref 28, .int (nI i)], [.ref 0], MW A B F sw, 42, 27475)) 1 rfl ?_
  refine wp_go (f' := (304, [.retAddr 1, .ref 0, .ref 28, .int (nI i)], [.int (nI i + 1), .retAddr 1, .ref 0], MW A B F sw, 42, 27475)) 4 rfl ?_
  rw [nI_1]
  refine wp_sc rfl (by omega) (by omega) ?_
  refine wp_go (f' := (309, [.retAddr 1, .ref 0, .ref 28, .int (nI i)], [.int (nI i + 2), .retAddr 1, .int (xs (i + 1)), .ref 0], MW A B F sw, 42, 27475)) 4 rfl ?_
  rw [nI_2]
  refine wp_sc rfl (by omega) (by omega) ?_
  refine wp_call rfl rfl rfl (ev_up h1 (by omega)) ?_
  refine wp_go (f' := (314, [.retAddr 1, .ref 0, .ref 28, .int (nI i)], [.ref 28, .int x], MW A1 B1 F1 sw1, 42, 27475)) 1 rfl ?_
  refine wp_go (f' := (318, [.retAddr 1, .ref 0, .ref 28, .int (nI i)], [.int (nI i + 1), .retAddr 1, .ref 28, .int x], MW A1 B1 F1 sw1, 42, 27475)) 4 rfl ?_
  rw [nI_1]
  refine wp_sc rfl (by omega) (by omega) ?_
  refine wp_go (f' := (323, [.retAddr 1, .ref 0, .ref 28, .int (nI i)], [.int (nI i + 2), .retAddr 1, .int (xs (i + 1)), .ref 28, .int x], MW A1 B1 F1 sw1, 42, 27475)) 4 rfl ?_
  rw [nI_2]
  refine wp_sc rfl (by omega) (by omega) ?_
  refine wp_call rfl rfl rfl (ev_up h2 (by omega)) ?_
  refine wp_go (f' := ((if x = x then 514 else 330), [.retAddr 1, .ref 0, .ref 28, .int (nI i)], [], MW A2 B2 F2 sw2, 42, 27475)) 1 rfl ?_
  rw [if_pos rfl]
  exact kk
set_option maxRecDepth 40000 in
theorem lz_8 (hi : i + 3 ≤ Ls) (hL : Ls ≤ 1536) (h : PRI xs Ls 48 119 [.int (xs (i + 1)), .int (xs (i + 2))] A B F sw c) : LB xs Ls 332 i A B F sw c := by
  obtain ⟨x, A1, B1, F1, sw1, A2, B2, F2, sw2, n, nb, ed, wt, h1, h2, I⟩ := h
  refine ⟨A2, B2, F2, sw2, n, nb, ed, wt, I, fun r kk => ?_⟩
  refine wp_go (f' := (333, [.retAddr 1, .ref 0, .ref 28, .int (nI i)], [.ref 0], MW A B F sw, 42, 27475)) 1 rfl ?_
  refine wp_go (f' := (337, [.retAddr 1, .ref 0, .ref 28, .int (nI i)], [.int (nI i + 1), .retAddr 1, .ref 0], MW A B F sw, 42, 27475)) 4 rfl ?_
  rw [nI_1]
  refine wp_sc rfl (by omega) (by omega) ?_
  refine wp_go (f' := (342, [.retAddr 1, .ref 0, .ref 28, .int (nI i)], [.int (nI i + 2), .retAddr 1, .int (xs (i + 1)), .ref 0], MW A B F sw, 42, 27475)) 4 rfl ?_
  rw [nI_2]
  refine wp_sc rfl (by omega) (by omega) ?_
  refine wp_call rfl rfl rfl (ev_up h1 (by omega)) ?_
  refine wp_go (f' := (347, [.retAddr 1, .ref 0, .ref 28, .int (nI i)], [.ref 28, .int x], MW A1 B1 F1 sw1, 42, 27475)) 1 rfl ?_
  refine wp_go (f' := (351, [.retAddr 1, .ref 0, .ref 28, .int (nI i)], [.int (nI i + 1), .retAddr 1, .ref 28, .int x], MW A1 B1 F1 sw1, 42, 27475)) 4 rfl ?_
  rw [nI_1]
  refine wp_sc rfl (by omega) (by omega) ?_
  refine wp_go (f' := (356, [.retAddr 1, .ref 0, .ref 28, .int (nI i)], [.int (nI i + 2), .retAddr 1, .int (xs (i + 1)), .ref 28, .int x], MW A1 B1 F1 sw1, 42, 27475)) 4 rfl ?_
  rw [nI_2]
  refine wp_sc rfl (by omega) (by omega) ?_
  refine wp_call rfl rfl rfl (ev_up h2 (by omega)) ?_
  refine wp_go (f' := ((if x = x then 514 else 363), [.retAddr 1, .ref 0, .ref 28, .int (nI i)], [], MW A2 B2 F2 sw2, 42, 27475)) 1 rfl ?_
  rw [if_pos rfl]
  exact kk
set_option maxRecDepth 40000 in
theorem lz_9 (hi : i + 3 ≤ Ls) (hL : Ls ≤ 1536) (h : PRI xs Ls 50 101 [.int (xs (i + 1))] A B F sw c) : LB xs Ls 365 i A B F sw c := by
  obtain ⟨x, A1, B1, F1, sw1, A2, B2, F2, sw2, n, nb, ed, wt, h1, h2, I⟩ := h
  refine ⟨A2, B2, F2, sw2, n, nb, ed, wt, I, fun r kk => ?_⟩
  refine wp_go (f' := (366, [.retAddr 1, .ref 0, .ref 28, .int (nI i)], [.ref 0], MW A B F sw, 42, 27475)) 1 rfl ?_
  refine wp_go (f' := (370, [.retAddr 1, .ref 0, .ref 28, .int (nI i)], [.int (nI i + 1), .retAddr 1, .ref 0], MW A B F sw, 42, 27475)) 4 rfl ?_
  rw [nI_1]
  refine wp_sc rfl (by omega) (by omega) ?_
  refine wp_call rfl rfl rfl (ev_up h1 (by omega)) ?_
  refine wp_go (f' := (375, [.retAddr 1, .ref 0, .ref 28, .int (nI i)], [.ref 28, .int x], MW A1 B1 F1 sw1, 42, 27475)) 1 rfl ?_
  refine wp_go (f' := (379, [.retAddr 1, .ref 0, .ref 28, .int (nI i)], [.int (nI i + 1), .retAddr 1, .ref 28, .int x], MW A1 B1 F1 sw1, 42, 27475)) 4 rfl ?_
  rw [nI_1]
  refine wp_sc rfl (by omega) (by omega) ?_
  refine wp_call rfl rfl rfl (ev_up h2 (by omega)) ?_
  refine wp_go (f' := ((if x = x then 514 else 386), [.retAddr 1, .ref 0, .ref 28, .int (nI i)], [], MW A2 B2 F2 sw2, 42, 27475)) 1 rfl ?_
  rw [if_pos rfl]
  exact kk
set_option maxRecDepth 40000 in
theorem lz_10 (hi : i + 3 ≤ Ls) (hL : Ls ≤ 1536) (h : PRI xs Ls 53 104 [.int (xs (i + 1))] A B F sw c) : LB xs Ls 388 i A B F sw c := by
  obtain ⟨x, A1, B1, F1, sw1, A2, B2, F2, sw2, n, nb, ed, wt, h1, h2, I⟩ := h
  refine ⟨A2, B2, F2, sw2, n, nb, ed, wt, I, fun r kk => ?_⟩
  refine wp_go (f' := (389, [.retAddr 1, .ref 0, .ref 28, .int (nI i)], [.ref 0], MW A B F sw, 42, 27475)) 1 rfl ?_
  refine wp_go (f' := (393, [.retAddr 1, .ref 0, .ref 28, .int (nI i)], [.int (nI i + 1), .retAddr 1, .ref 0], MW A B F sw, 42, 27475)) 4 rfl ?_
  rw [nI_1]
  refine wp_sc rfl (by omega) (by omega) ?_
  refine wp_call rfl rfl rfl (ev_up h1 (by omega)) ?_
  refine wp_go (f' := (398, [.retAddr 1, .ref 0, .ref 28, .int (nI i)], [.ref 28, .int x], MW A1 B1 F1 sw1, 42, 27475)) 1 rfl ?_
  refine wp_go (f' := (402, [.retAddr 1, .ref 0, .ref 28, .int (nI i)], [.int (nI i + 1), .retAddr 1, .ref 28, .int x], MW A1 B1 F1 sw1, 42, 27475)) 4 rfl ?_
  rw [nI_1]
  refine wp_sc rfl (by omega) (by omega) ?_
  refine wp_call rfl rfl rfl (ev_up h2 (by omega)) ?_
  refine wp_go (f' := ((if x = x then 514 else 409), [.retAddr 1, .ref 0, .ref 28, .int (nI i)], [], MW A2 B2 F2 sw2, 42, 27475)) 1 rfl ?_
  rw [if_pos rfl]
  exact kk
set_option maxRecDepth 40000 in
theorem lz_11 (hi : i + 3 ≤ Ls) (hL : Ls ≤ 1536) (h : PRL xs Ls 56 120 [.int (xs (i + 1)), .int (xs (i + 2))] A B F sw c) : LB xs Ls 411 i A B F sw c := by
  obtain ⟨x, A1, B1, F1, sw1, A2, B2, F2, sw2, n, nb, ed, wt, h1, h2, I⟩ := h
  refine ⟨A2, B2, F2, sw2, n, nb, ed, wt, I, fun r kk => ?_⟩
  refine wp_go (f' := (412, [.retAddr 1, .ref 0, .ref 28, .int (nI i)], [.ref 0], MW A B F sw, 42, 27475)) 1 rfl ?_
  refine wp_go (f' := (416, [.retAddr 1, .ref 0, .ref 28, .int (nI i)], [.int (nI i + 1), .retAddr 1, .ref 0], MW A B F sw, 42, 27475)) 4 rfl ?_
  rw [nI_1]
  refine wp_sc rfl (by omega) (by omega) ?_
  refine wp_go (f' := (421, [.retAddr 1, .ref 0, .ref 28, .int (nI i)], [.int (nI i + 2), .retAddr 1, .int (xs (i + 1)), .ref 0], MW A B F sw, 42, 27475)) 4 rfl ?_
  rw [nI_2]
  refine wp_sc rfl (by omega) (by omega) ?_
  refine wp_call rfl rfl rfl (ev_up h1 (by omega)) ?_
  refine wp_go (f' := (426, [.retAddr 1, .ref 0, .ref 28, .int (nI i)], [.ref 28, .long x], MW A1 B1 F1 sw1, 42, 27475)) 1 rfl ?_
  refine wp_go (f' := (430, [.retAddr 1, .ref 0, .ref 28, .int (nI i)], [.int (nI i + 1), .retAddr 1, .ref 28, .long x], MW A1 B1 F1 sw1, 42, 27475)) 4 rfl ?_
  rw [nI_1]
  refine wp_sc rfl (by omega) (by omega) ?_
  refine wp_go (f' := (435, [.retAddr 1, .ref 0, .ref 28, .int (nI i)], [.int (nI i + 2), .retAddr 1, .int (xs (i + 1)), .ref 28, .long x], MW A1 B1 F1 sw1, 42, 27475)) 4 rfl ?_
  rw [nI_2]
  refine wp_sc rfl (by omega) (by omega) ?_
  refine wp_call rfl rfl rfl (ev_up h2 (by omega)) ?_
  refine wp_go (f' := ((if lg_cmp x x = 0 then 514 else 443), [.retAddr 1, .ref 0, .ref 28, .int (nI i)], [], MW A2 B2 F2 sw2, 42, 27475)) 2 rfl ?_
  rw [if_pos ((lg_cmp_eq x x).mpr rfl)]
  exact kk
set_option maxRecDepth 40000 in
theorem lz_12 (hi : i + 3 ≤ Ls) (hL : Ls ≤ 1536) (h : PRI xs Ls 76 131 [.int (xs (i + 1))] A B F sw c) : LB xs Ls 445 i A B F sw c := by
  obtain ⟨x, A1, B1, F1, sw1, A2, B2, F2, sw2, n, nb, ed, wt, h1, h2, I⟩ := h
  refine ⟨A2, B2, F2, sw2, n, nb, ed, wt, I, fun r kk => ?_⟩
  refine wp_go (f' := (446, [.retAddr 1, .ref 0, .ref 28, .int (nI i)], [.ref 0], MW A B F sw, 42, 27475)) 1 rfl ?_
  refine wp_go (f' := (450, [.retAddr 1, .ref 0, .ref 28, .int (nI i)], [.int (nI i + 1), .retAddr 1, .ref 0], MW A B F sw, 42, 27475)) 4 rfl ?_
  rw [nI_1]
  refine wp_sc rfl (by omega) (by omega) ?_
  refine wp_call rfl rfl rfl (ev_up h1 (by omega)) ?_
  refine wp_go (f' := (455, [.retAddr 1, .ref 0, .ref 28, .int (nI i)], [.ref 28, .int x], MW A1 B1 F1 sw1, 42, 27475)) 1 rfl ?_
  refine wp_go (f' := (459, [.retAddr 1, .ref 0, .ref 28, .int (nI i)], [.int (nI i + 1), .retAddr 1, .ref 28, .int x], MW A1 B1 F1 sw1, 42, 27475)) 4 rfl ?_
  rw [nI_1]
  refine wp_sc rfl (by omega) (by omega) ?_
  refine wp_call rfl rfl rfl (ev_up h2 (by omega)) ?_
  refine wp_go (f' := ((if x = x then 514 else 466), [.retAddr 1, .ref 0, .ref 28, .int (nI i)], [], MW A2 B2 F2 sw2, 42, 27475)) 1 rfl ?_
  rw [if_pos rfl]
  exact kk
set_option maxRecDepth 40000 in
theorem lz_13 (hi : i + 3 ≤ Ls) (hL : Ls ≤ 1536) (h : PRI xs Ls 80 136 [.int (xs (i + 1))] A B F sw c) : LB xs Ls 468 i A B F sw c := by
  obtain ⟨x, A1, B1, F1, sw1, A2, B2, F2, sw2, n, nb, ed, wt, h1, h2, I⟩ := h
  refine ⟨A2, B2, F2, sw2, n, nb, ed, wt, I, fun r kk => ?_⟩
  refine wp_go (f' := (469, [.retAddr 1, .ref 0, .ref 28, .int (nI i)], [.ref 0], MW A B F sw, 42, 27475)) 1 rfl ?_
  refine wp_go (f' := (473, [.retAddr 1, .ref 0, .ref 28, .int (nI i)], [.int (nI i + 1), .retAddr 1, .ref 0], MW A B F sw, 42, 27475)) 4 rfl ?_
  rw [nI_1]
  refine wp_sc rfl (by omega) (by omega) ?_
  refine wp_call rfl rfl rfl (ev_up h1 (by omega)) ?_
  refine wp_go (f' := (478, [.retAddr 1, .ref 0, .ref 28, .int (nI i)], [.ref 28, .int x], MW A1 B1 F1 sw1, 42, 27475)) 1 rfl ?_
  refine wp_go (f' := (482, [.retAddr 1, .ref 0, .ref 28, .int (nI i)], [.int (nI i + 1), .retAddr 1, .ref 28, .int x], MW A1 B1 F1 sw1, 42, 27475)) 4 rfl ?_
  rw [nI_1]
  refine wp_sc rfl (by omega) (by omega) ?_
  refine wp_call rfl rfl rfl (ev_up h2 (by omega)) ?_
  refine wp_go (f' := ((if x = x then 514 else 489), [.retAddr 1, .ref 0, .ref 28, .int (nI i)], [], MW A2 B2 F2 sw2, 42, 27475)) 1 rfl ?_
  rw [if_pos rfl]
  exact kk
set_option maxRecDepth 40000 in
theorem lz_14 (hi : i + 3 ≤ Ls) (hL : Ls ≤ 1536) (h : PRI xs Ls 81 137 [.int (xs (i + 1))] A B F sw c) : LB xs Ls 491 i A B F sw c := by
  obtain ⟨x, A1, B1, F1, sw1, A2, B2, F2, sw2, n, nb, ed, wt, h1, h2, I⟩ := h
  refine ⟨A2, B2, F2, sw2, n, nb, ed, wt, I, fun r kk => ?_⟩
  refine wp_go (f' := (492, [.retAddr 1, .ref 0, .ref 28, .int (nI i)], [.ref 0], MW A B F sw, 42, 27475)) 1 rfl ?_
  refine wp_go (f' := (496, [.retAddr 1, .ref 0, .ref 28, .int (nI i)], [.int (nI i + 1), .retAddr 1, .ref 0], MW A B F sw, 42, 27475)) 4 rfl ?_
  rw [nI_1]
  refine wp_sc rfl (by omega) (by omega) ?_
  refine wp_call rfl rfl rfl (ev_up h1 (by omega)) ?_
  refine wp_go (f' := (501, [.retAddr 1, .ref 0, .ref 28, .int (nI i)], [.ref 28, .int x], MW A1 B1 F1 sw1, 42, 27475)) 1 rfl ?_
  refine wp_go (f' := (505, [.retAddr 1, .ref 0, .ref 28, .int (nI i)], [.int (nI i + 1), .retAddr 1, .ref 28, .int x], MW A1 B1 F1 sw1, 42, 27475)) 4 rfl ?_
  rw [nI_1]
  refine wp_sc rfl (by omega) (by omega) ?_
  refine wp_call rfl rfl rfl (ev_up h2 (by omega)) ?_
  refine wp_go (f' := ((if x = x then 514 else 512), [.retAddr 1, .ref 0, .ref 28, .int (nI i)], [], MW A2 B2 F2 sw2, 42, 27475)) 1 rfl ?_
  rw [if_pos rfl]
  exact kk
theorem and15 (x : Int32) : ∃ k, k ≤ 15 ∧ x &&& 15 = nI k := by
  have e : x = nI x.toBitVec.toNat := by
    apply Int32.toBitVec_inj.mp
    show x.toBitVec = BitVec.ofNat 32 x.toBitVec.toNat
    rw [BitVec.ofNat_toNat, BitVec.setWidth_eq]
  refine ⟨x.toBitVec.toNat &&& 15, Nat.and_le_right, ?_⟩
  have h := bx_and x.toBitVec.toNat 15
  rw [← e] at h
  exact h
set_option maxRecDepth 40000 in
theorem lz_body {n ed : Nat} {nb wt : Nat → Nat} (hi : i + 3 ≤ Ls) (hL : Ls ≤ 1536) (hc : c < 1000000) (I : INV A F n nb ed wt c) : LB xs Ls 26 i A B F sw c := by
  obtain ⟨k, hk, e⟩ := and15 (xs i)
  have hgo : ∀ (t : Nat), LB xs Ls t i A B F sw c → (∀ r, mv_Wp xs Ls 20 7 false (some .boolean) mv_c138 (t, [.retAddr 1, .ref 0, .ref 28, .int (nI i)], [], MW A B F sw, 42, 27475) r → mv_Wp xs Ls 20 7 false (some .boolean) mv_c138 (32, [.retAddr 1, .ref 0, .ref 28, .int (nI i)], [.int (nI k)], MW A B F sw, 42, 27475) r) → LB xs Ls 26 i A B F sw c := by
    intro t ⟨A2, B2, F2, sw2, n, nb, ed, wt, I2, h⟩ hg
    refine ⟨A2, B2, F2, sw2, n, nb, ed, wt, I2, fun r kk => ?_⟩
    refine wp_go (f' := (28, [.retAddr 1, .ref 0, .ref 28, .int (nI i)], [.int (nI i), .retAddr 1], MW A B F sw, 42, 27475)) 2 rfl ?_
    refine wp_sc rfl (by omega) (by omega) ?_
    refine wp_go (f' := (32, [.retAddr 1, .ref 0, .ref 28, .int (nI i)], [.int (xs i &&& 15)], MW A B F sw, 42, 27475)) 2 rfl ?_
    rw [e]
    exact hg r (h r kk)
  have hk : k = 0 ∨ k = 1 ∨ k = 2 ∨ k = 3 ∨ k = 4 ∨ k = 5 ∨ k = 6 ∨ k = 7 ∨ k = 8 ∨ k = 9 ∨ k = 10 ∨ k = 11 ∨ k = 12 ∨ k = 13 ∨ k = 14 ∨ k = 15 := by omega
  rcases hk with rfl | rfl | rfl | rfl | rfl | rfl | rfl | rfl | rfl | rfl | rfl | rfl | rfl | rfl | rfl | rfl
  · exact hgo 108 (lz_0 hi hL (pr_begin I hc (xs (i + 1)))) (fun r h => wp_go 1 rfl h)
  · exact hgo 131 (lz_1 hi hL (pr_join I hc (xs (i + 1)) (xs (i + 2)))) (fun r h => wp_go 1 rfl h)
  · exact hgo 164 (lz_2 hi hL (pr_part I hc (xs (i + 1)) (xs (i + 2)))) (fun r h => wp_go 1 rfl h)
  · exact hgo 197 (lz_3 hi hL (pr_weigh I (xs (i + 1)) (xs (i + 2)))) (fun r h => wp_go 1 rfl h)
  · exact hgo 230 (lz_4 hi hL (pr_count I (xs (i + 1)))) (fun r h => wp_go 1 rfl h)
  · exact hgo 253 (lz_5 hi hL (pr_near I (xs (i + 1)))) (fun r h => wp_go 1 rfl h)
  · exact hgo 276 (lz_6 hi hL (pr_width I (xs (i + 1)))) (fun r h => wp_go 1 rfl h)
  · exact hgo 299 (lz_7 hi hL (pr_order I (xs (i + 1)) (xs (i + 2)))) (fun r h => wp_go 1 rfl h)
  · exact hgo 332 (lz_8 hi hL (pr_seen I (xs (i + 1)) (xs (i + 2)))) (fun r h => wp_go 1 rfl h)
  · exact hgo 365 (lz_9 hi hL (pr_sep I (xs (i + 1)))) (fun r h => wp_go 1 rfl h)
  · exact hgo 388 (lz_10 hi hL (pr_clique I (xs (i + 1)))) (fun r h => wp_go 1 rfl h)
  · exact hgo 411 (lz_11 hi hL (pr_total I (xs (i + 1)) (xs (i + 2)))) (fun r h => wp_go 1 rfl h)
  · exact hgo 445 (lz_12 hi hL (pr_best I (xs (i + 1)))) (fun r h => wp_go 1 rfl h)
  · exact hgo 468 (lz_13 hi hL (pr_which I (xs (i + 1)))) (fun r h => wp_go 1 rfl h)
  · exact hgo 491 (lz_14 hi hL (pr_few I (xs (i + 1)))) (fun r h => wp_go 1 rfl h)
  · exact hgo 514 ⟨A, B, F, sw, n, nb, ed, wt, vv_up I, fun r h => h⟩ (fun r h => wp_go 1 rfl h)
set_option maxRecDepth 40000 in
theorem lz_end {Ls t : Nat} (hL : Ls ≤ 1536) (ht : t ≤ 4000) : nI Ls - nI 3 < nI t ↔ Ls < t + 3 := by
  by_cases h3 : 3 ≤ Ls
  · rw [pk_sub h3, nI_ltI (by omega) (by omega)]
    omega
  · refine ⟨fun _ => by omega, fun _ => ?_⟩
    have h : nI Ls - nI 3 < 0 := by
      have : Ls = 0 ∨ Ls = 1 ∨ Ls = 2 := by omega
      rcases this with rfl | rfl | rfl <;> decide
    exact Int32.lt_of_lt_of_le h (Int32.not_lt.mp (nI_pos (by omega)))
set_option maxRecDepth 40000 in
theorem lz_loop (hL : Ls ≤ 1536) : ∀ (f t : Nat) (A : Nat → Nat → Int32) (B : Nat → Nat → Int64) (F : Nat → Int32) (sw : Bool) (n : Nat) (nb : Nat → Nat) (ed : Nat) (wt : Nat → Nat), Ls < 3 * t + 3 * f → 3 * t ≤ 2000 → INV A F n nb ed wt t → ∃ w, mv_Wp xs Ls 20 7 false (some .boolean) mv_c138 (18, [.retAddr 1, .ref 0, .ref 28, .int (nI (3 * t))], [], MW A B F sw, 42, 27475) (some (.int 1), w, 42, 27475) := by
  intro f
  induction f with
  | zero =>
    intro t A B F sw n nb ed wt h ht I
    refine ⟨MW A B F sw, ?_⟩
    refine wp_go (f' := ((if nI Ls - nI 3 < nI (3 * t) then 520 else 26), [.retAddr 1, .ref 0, .ref 28, .int (nI (3 * t))], [], MW A B F sw, 42, 27475)) 6 rfl ?_
    rw [if_pos ((lz_end hL (by omega)).mpr (by omega))]
    refine wp_go (f' := (521, [.retAddr 1, .ref 0, .ref 28, .int (nI (3 * t))], [.int 1], MW A B F sw, 42, 27475)) 1 rfl ?_
    exact wp_zret rfl (Or.inr rfl)
  | succ f ih =>
    intro t A B F sw n nb ed wt h ht I
    by_cases he : Ls < 3 * t + 3
    · refine ⟨MW A B F sw, ?_⟩
      refine wp_go (f' := ((if nI Ls - nI 3 < nI (3 * t) then 520 else 26), [.retAddr 1, .ref 0, .ref 28, .int (nI (3 * t))], [], MW A B F sw, 42, 27475)) 6 rfl ?_
      rw [if_pos ((lz_end hL (by omega)).mpr he)]
      refine wp_go (f' := (521, [.retAddr 1, .ref 0, .ref 28, .int (nI (3 * t))], [.int 1], MW A B F sw, 42, 27475)) 1 rfl ?_
      exact wp_zret rfl (Or.inr rfl)
    · obtain ⟨A2, B2, F2, sw2, n2, nb2, ed2, wt2, I2, hb⟩ := lz_body (xs := xs) (B := B) (sw := sw) (i := 3 * t) (by omega) hL (by omega) I
      obtain ⟨w, hw⟩ := ih (t + 1) A2 B2 F2 sw2 n2 nb2 ed2 wt2 (by omega) (by omega) I2
      refine ⟨w, ?_⟩
      refine wp_go (f' := ((if nI Ls - nI 3 < nI (3 * t) then 520 else 26), [.retAddr 1, .ref 0, .ref 28, .int (nI (3 * t))], [], MW A B F sw, 42, 27475)) 6 rfl ?_
      rw [if_neg (fun h9 => he ((lz_end hL (by omega)).mp h9))]
      refine hb _ ?_
      refine wp_go (f' := (18, [.retAddr 1, .ref 0, .ref 28, .int (nI (3 * t) + 3)], [], MW A2 B2 F2 sw2, 42, 27475)) 2 rfl ?_
      rw [nI_3]
      exact hw
theorem inv_0 : INV (fun _ _ => 0) F00 0 (fun _ => 0) 0 (fun _ => 0) 0 := by
  refine ⟨⟨⟨by omega, rfl, fun _ _ => rfl, fun _ _ => show 0 < 1024 by omega⟩, ⟨rfl, rfl, rfl⟩, fun h => absurd h (by decide), rfl, fun _ _ => ⟨rfl, show 0 ≤ 1000 by omega⟩, 0, rfl, by omega, fun h => absurd h (by decide), ⟨fun _ => 0, fun _ _ => ⟨rfl, show 0 ≤ 1000 by omega⟩, rfl, rfl⟩, fun _ => 0, fun _ => 0, fun _ _ => show 0 < 10 by omega, ?_⟩, ⟨⟨by omega, rfl, fun _ _ => rfl, fun _ _ => show 0 < 1024 by omega⟩, rfl, fun _ _ => ⟨rfl, show 0 ≤ 1000 by omega⟩⟩, ⟨gre_0 (by omega), ine_0 (by omega), by omega⟩, 0, rfl, by omega, Or.inl rfl, Or.inl rfl⟩
  funext j
  unfold rowT
  by_cases h : j < 10
  · rw [if_pos h]; rfl
  · rw [if_neg h]
end LAW
set_option maxRecDepth 40000 in
theorem law_pure : mv_Pure := by
  intro Ls xs hL
  obtain ⟨w, hw⟩ := lz_loop (xs := xs) hL 513 0 _ (fun _ _ => 0) _ false _ _ _ _ (by omega) (by omega) inv_0
  have h0 := law_begin (by omega) hw
  obtain ⟨N, hN⟩ := h0
  exact ⟨N, 20, 42, 27475, w, by omega, by omega, by omega, hN N N (Nat.le_refl _) (Nat.le_refl _)⟩
