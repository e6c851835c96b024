section MM
variable {xs : Nat → Int32} {Ls : Nat} {A : Nat → Nat → Int32} {B : Nat → Nat → Int64} {F : Nat → Int32} {sw : Bool} {n : Nat} {nb : Nat → Nat}
theorem ev_join_there (hM : MI A F n nb) {ed : Nat} (hE : F 7 = nI ed) (hed : ed ≤ 20) {a b : Nat} (ha : a < n) (hb : b < n) (hab : a ≠ b) (hx : (nb a).testBit b = true) : mv_Ev xs Ls 3 86 [.ref 28, .int (nI a), .int (nI b)] (MW A B F sw) (some (.int (-4)), MW A B F sw, 0, 0) := by
  refine ev_of_wp rfl rfl rfl ?_
  have hn := hM.1
  have hna := hM.2.2.2 a (by omega)
  have hnb2 := hM.2.2.2 b (by omega)
  refine wp_go (f' := (2, [.ref 28, .int (nI a), .int (nI b)], [.int (nI a), .ref 28], MW A B F sw, 0, 0)) 2 rfl ?_
  refine wp_call rfl rfl rfl (ev_up (ev_isV_t hM (a := a) (by omega)) (by decide)) ?_
  refine wp_eq (f' := (5, [.ref 28, .int (nI a), .int (nI b)], [.int (nI 1)], MW A B F sw, 0, 0)) rfl ?_
  refine wp_go (f' := ((if (nI 1) = 0 then 21 else 8), [.ref 28, .int (nI a), .int (nI b)], [], MW A B F sw, 0, 0)) 1 rfl ?_
  refine wp_ite (fun h9 => absurd h9 (by decide : ¬ nI 1 = 0)) (fun _ => ?_)
  refine wp_go (f' := (10, [.ref 28, .int (nI a), .int (nI b)], [.int (nI b), .ref 28], MW A B F sw, 0, 0)) 2 rfl ?_
  refine wp_call rfl rfl rfl (ev_up (ev_isV_t hM (a := b) (by omega)) (by decide)) ?_
  refine wp_eq (f' := (13, [.ref 28, .int (nI a), .int (nI b)], [.int (nI 1)], MW A B F sw, 0, 0)) rfl ?_
  refine wp_go (f' := ((if (nI 1) = 0 then 21 else 16), [.ref 28, .int (nI a), .int (nI b)], [], MW A B F sw, 0, 0)) 1 rfl ?_
  refine wp_ite (fun h9 => absurd h9 (by decide : ¬ nI 1 = 0)) (fun _ => ?_)
  refine wp_go (f' := ((if ¬ (nI a) = (nI b) then 24 else 21), [.ref 28, .int (nI a), .int (nI b)], [], MW A B F sw, 0, 0)) 3 rfl ?_
  refine wp_ite (fun _ => ?_) (fun h9 => absurd (fun h8 => hab ((nI_eq (a := a) (b := b) (by omega) (by omega)).mp h8)) h9)
  refine wp_go (f' := (27, [.ref 28, .int (nI a), .int (nI b)], [.int (nI b), .int (nI a), .ref 28], MW A B F sw, 0, 0)) 3 rfl ?_
  refine wp_call rfl rfl rfl (ev_up (ev_isEdge hM a b (by omega) (by omega)) (by decide)) ?_
  refine wp_eq (f' := (30, [.ref 28, .int (nI a), .int (nI b)], [.int (bI ((nb a).testBit b))], MW A B F sw, 0, 0)) rfl ?_
  refine wp_go (f' := ((if (bI ((nb a).testBit b)) = 0 then 36 else 33), [.ref 28, .int (nI a), .int (nI b)], [], MW A B F sw, 0, 0)) 1 rfl ?_
  refine wp_ite (fun h9 => absurd h9 (by rw [bI_t hx]; decide)) (fun _ => ?_)
  refine wp_go (f' := (35, [.ref 28, .int (nI a), .int (nI b)], [.int (-4)], MW A B F sw, 0, 0)) 1 rfl ?_
  exact wp_iret rfl
theorem ev_join_full (hM : MI A F n nb) {ed : Nat} (hE : F 7 = nI ed) (hed : ed ≤ 20) {a b : Nat} (ha : a < n) (hb : b < n) (hab : a ≠ b) (hx : (nb a).testBit b = false) (h20 : ed = 20) : mv_Ev xs Ls 3 86 [.ref 28, .int (nI a), .int (nI b)] (MW A B F sw) (some (.int (-3)), MW A B F sw, 0, 0) := by
  refine ev_of_wp rfl rfl rfl ?_
  have hn := hM.1
  have hna := hM.2.2.2 a (by omega)
  have hnb2 := hM.2.2.2 b (by omega)
  refine wp_go (f' := (2, [.ref 28, .int (nI a), .int (nI b)], [.int (nI a), .ref 28], MW A B F sw, 0, 0)) 2 rfl ?_
  refine wp_call rfl rfl rfl (ev_up (ev_isV_t hM (a := a) (by omega)) (by decide)) ?_
  refine wp_eq (f' := (5, [.ref 28, .int (nI a), .int (nI b)], [.int (nI 1)], MW A B F sw, 0, 0)) rfl ?_
  refine wp_go (f' := ((if (nI 1) = 0 then 21 else 8), [.ref 28, .int (nI a), .int (nI b)], [], MW A B F sw, 0, 0)) 1 rfl ?_
  refine wp_ite (fun h9 => absurd h9 (by decide : ¬ nI 1 = 0)) (fun _ => ?_)
  refine wp_go (f' := (10, [.ref 28, .int (nI a), .int (nI b)], [.int (nI b), .ref 28], MW A B F sw, 0, 0)) 2 rfl ?_
  refine wp_call rfl rfl rfl (ev_up (ev_isV_t hM (a := b) (by omega)) (by decide)) ?_
  refine wp_eq (f' := (13, [.ref 28, .int (nI a), .int (nI b)], [.int (nI 1)], MW A B F sw, 0, 0)) rfl ?_
  refine wp_go (f' := ((if (nI 1) = 0 then 21 else 16), [.ref 28, .int (nI a), .int (nI b)], [], MW A B F sw, 0, 0)) 1 rfl ?_
  refine wp_ite (fun h9 => absurd h9 (by decide : ¬ nI 1 = 0)) (fun _ => ?_)
  refine wp_go (f' := ((if ¬ (nI a) = (nI b) then 24 else 21), [.ref 28, .int (nI a), .int (nI b)], [], MW A B F sw, 0, 0)) 3 rfl ?_
  refine wp_ite (fun _ => ?_) (fun h9 => absurd (fun h8 => hab ((nI_eq (a := a) (b := b) (by omega) (by omega)).mp h8)) h9)
  refine wp_go (f' := (27, [.ref 28, .int (nI a), .int (nI b)], [.int (nI b), .int (nI a), .ref 28], MW A B F sw, 0, 0)) 3 rfl ?_
  refine wp_call rfl rfl rfl (ev_up (ev_isEdge hM a b (by omega) (by omega)) (by decide)) ?_
  refine wp_eq (f' := (30, [.ref 28, .int (nI a), .int (nI b)], [.int (bI ((nb a).testBit b))], MW A B F sw, 0, 0)) rfl ?_
  refine wp_go (f' := ((if (bI ((nb a).testBit b)) = 0 then 36 else 33), [.ref 28, .int (nI a), .int (nI b)], [], MW A B F sw, 0, 0)) 1 rfl ?_
  refine wp_ite (fun _ => ?_) (fun h9 => absurd (bI_f hx) h9)
  refine wp_go (f' := (40, [.ref 28, .int (nI a), .int (nI b)], [.int (F 7)], MW A B F sw, 0, 0)) 2 rfl ?_
  rw [hE]
  refine wp_go (f' := ((if ¬ (nI ed) = (nI 20) then 48 else 45), [.ref 28, .int (nI a), .int (nI b)], [], MW A B F sw, 0, 0)) 2 rfl ?_
  refine wp_ite (fun h9 => absurd h9 (fun h8 => h8 (by rw [h20]))) (fun _ => ?_)
  refine wp_go (f' := (47, [.ref 28, .int (nI a), .int (nI b)], [.int (-3)], MW A B F sw, 0, 0)) 1 rfl ?_
  exact wp_iret rfl
theorem ev_join_ok (hM : MI A F n nb) {ed : Nat} (hE : F 7 = nI ed) (hed : ed ≤ 20) {a b : Nat} (ha : a < n) (hb : b < n) (hab : a ≠ b) (hx : (nb a).testBit b = false) (h20 : ed ≠ 20) : mv_Ev xs Ls 3 86 [.ref 28, .int (nI a), .int (nI b)] (MW A B F sw) (some (.int (nI (ed + 1))), MW (upA A 29 (upd (upd (A 29) a (nI (nb a ||| 2 ^ b))) b (nI (nb b ||| 2 ^ a)))) B (upF F 7 (nI (ed + 1))) sw, 0, 0) := by
  refine ev_of_wp rfl rfl rfl ?_
  have hn := hM.1
  have hna := hM.2.2.2 a (by omega)
  have hnb2 := hM.2.2.2 b (by omega)
  refine wp_go (f' := (2, [.ref 28, .int (nI a), .int (nI b)], [.int (nI a), .ref 28], MW A B F sw, 0, 0)) 2 rfl ?_
  refine wp_call rfl rfl rfl (ev_up (ev_isV_t hM (a := a) (by omega)) (by decide)) ?_
  refine wp_eq (f' := (5, [.ref 28, .int (nI a), .int (nI b)], [.int (nI 1)], MW A B F sw, 0, 0)) rfl ?_
  refine wp_go (f' := ((if (nI 1) = 0 then 21 else 8), [.ref 28, .int (nI a), .int (nI b)], [], MW A B F sw, 0, 0)) 1 rfl ?_
  refine wp_ite (fun h9 => absurd h9 (by decide : ¬ nI 1 = 0)) (fun _ => ?_)
  refine wp_go (f' := (10, [.ref 28, .int (nI a), .int (nI b)], [.int (nI b), .ref 28], MW A B F sw, 0, 0)) 2 rfl ?_
  refine wp_call rfl rfl rfl (ev_up (ev_isV_t hM (a := b) (by omega)) (by decide)) ?_
  refine wp_eq (f' := (13, [.ref 28, .int (nI a), .int (nI b)], [.int (nI 1)], MW A B F sw, 0, 0)) rfl ?_
  refine wp_go (f' := ((if (nI 1) = 0 then 21 else 16), [.ref 28, .int (nI a), .int (nI b)], [], MW A B F sw, 0, 0)) 1 rfl ?_
  refine wp_ite (fun h9 => absurd h9 (by decide : ¬ nI 1 = 0)) (fun _ => ?_)
  refine wp_go (f' := ((if ¬ (nI a) = (nI b) then 24 else 21), [.ref 28, .int (nI a), .int (nI b)], [], MW A B F sw, 0, 0)) 3 rfl ?_
  refine wp_ite (fun _ => ?_) (fun h9 => absurd (fun h8 => hab ((nI_eq (a := a) (b := b) (by omega) (by omega)).mp h8)) h9)
  refine wp_go (f' := (27, [.ref 28, .int (nI a), .int (nI b)], [.int (nI b), .int (nI a), .ref 28], MW A B F sw, 0, 0)) 3 rfl ?_
  refine wp_call rfl rfl rfl (ev_up (ev_isEdge hM a b (by omega) (by omega)) (by decide)) ?_
  refine wp_eq (f' := (30, [.ref 28, .int (nI a), .int (nI b)], [.int (bI ((nb a).testBit b))], MW A B F sw, 0, 0)) rfl ?_
  refine wp_go (f' := ((if (bI ((nb a).testBit b)) = 0 then 36 else 33), [.ref 28, .int (nI a), .int (nI b)], [], MW A B F sw, 0, 0)) 1 rfl ?_
  refine wp_ite (fun _ => ?_) (fun h9 => absurd (bI_f hx) h9)
  refine wp_go (f' := (40, [.ref 28, .int (nI a), .int (nI b)], [.int (F 7)], MW A B F sw, 0, 0)) 2 rfl ?_
  rw [hE]
  refine wp_go (f' := ((if ¬ (nI ed) = (nI 20) then 48 else 45), [.ref 28, .int (nI a), .int (nI b)], [], MW A B F sw, 0, 0)) 2 rfl ?_
  refine wp_ite (fun _ => ?_) (fun h9 => absurd (fun h8 => h20 ((nI_eq (a := ed) (b := 20) (by omega) (by omega)).mp h8)) h9)
  refine wp_go (f' := (54, [.ref 28, .int (nI a), .int (nI b)], [.int (nI a), .ref 29, .int (nI a), .ref 29], MW A B F sw, 0, 0)) 4 rfl ?_
  refine wp_iald rfl rfl (by omega) (by decide) ?_
  rw [hM.2.2.1 a (by omega)]
  have hnb := hM.2.2.2 a (by omega)
  refine wp_go (f' := (58, [.ref 28, .int (nI a), .int (nI b)], [.int ((nI 1) <<< ((nI b) &&& 31)), .int (nI (nb a)), .int (nI a), .ref 29], MW A B F sw, 0, 0)) 3 rfl ?_
  rw [bx_one (by omega)]
  have hb1 : 2 ^ b < 1024 := by first | omega | exact or_lt (by omega) (by omega) | exact and_lt (by omega) | exact and_lt_r (by omega) | exact sd_lt (by omega) | exact pow_lt (by omega)
  refine wp_go (f' := (59, [.ref 28, .int (nI a), .int (nI b)], [.int ((nI (nb a)) ||| (nI (2 ^ b))), .int (nI a), .ref 29], MW A B F sw, 0, 0)) 1 rfl ?_
  rw [bx_or]
  have hb2 : (nb a) ||| (2 ^ b) < 1024 := by first | omega | exact or_lt (by omega) (by omega) | exact and_lt (by omega) | exact and_lt_r (by omega) | exact sd_lt (by omega) | exact pow_lt (by omega)
  refine wp_iast rfl rfl (by omega) (by decide) ?_
  refine wp_eq (f' := (60, [.ref 28, .int (nI a), .int (nI b)], [], MW (upA A 29 (upd (A 29) a (nI ((nb a) ||| (2 ^ b))))) B F sw, 0, 0)) rfl ?_
  refine wp_go (f' := (66, [.ref 28, .int (nI a), .int (nI b)], [.int (nI b), .ref 29, .int (nI b), .ref 29], MW (upA A 29 (upd (A 29) a (nI ((nb a) ||| (2 ^ b))))) B F sw, 0, 0)) 4 rfl ?_
  refine wp_iald rfl rfl (by omega) (by decide) ?_
  refine wp_eq (f' := (67, [.ref 28, .int (nI a), .int (nI b)], [.int ((upd (A 29) a (nI ((nb a) ||| (2 ^ b)))) b), .int (nI b), .ref 29], MW (upA A 29 (upd (A 29) a (nI ((nb a) ||| (2 ^ b))))) B F sw, 0, 0)) rfl ?_
  rw [pk_un (fun h8 => hab h8.symm), hM.2.2.1 b (by omega)]
  refine wp_go (f' := (70, [.ref 28, .int (nI a), .int (nI b)], [.int ((nI 1) <<< ((nI a) &&& 31)), .int (nI (nb b)), .int (nI b), .ref 29], MW (upA A 29 (upd (A 29) a (nI ((nb a) ||| (2 ^ b))))) B F sw, 0, 0)) 3 rfl ?_
  rw [bx_one (by omega)]
  have hb3 : 2 ^ a < 1024 := by first | omega | exact or_lt (by omega) (by omega) | exact and_lt (by omega) | exact and_lt_r (by omega) | exact sd_lt (by omega) | exact pow_lt (by omega)
  refine wp_go (f' := (71, [.ref 28, .int (nI a), .int (nI b)], [.int ((nI (nb b)) ||| (nI (2 ^ a))), .int (nI b), .ref 29], MW (upA A 29 (upd (A 29) a (nI ((nb a) ||| (2 ^ b))))) B F sw, 0, 0)) 1 rfl ?_
  rw [bx_or]
  have hb4 : (nb b) ||| (2 ^ a) < 1024 := by first | omega | exact or_lt (by omega) (by omega) | exact and_lt (by omega) | exact and_lt_r (by omega) | exact sd_lt (by omega) | exact pow_lt (by omega)
  refine wp_iast rfl rfl (by omega) (by decide) ?_
  refine wp_eq (f' := (72, [.ref 28, .int (nI a), .int (nI b)], [], MW (upA A 29 (upd (upd (A 29) a (nI ((nb a) ||| (2 ^ b)))) b (nI ((nb b) ||| (2 ^ a))))) B F sw, 0, 0)) rfl ?_
  refine wp_go (f' := (77, [.ref 28, .int (nI a), .int (nI b)], [.int (F 7), .ref 28], MW (upA A 29 (upd (upd (A 29) a (nI ((nb a) ||| (2 ^ b)))) b (nI ((nb b) ||| (2 ^ a))))) B F sw, 0, 0)) 3 rfl ?_
  rw [hE]
  refine wp_go (f' := (79, [.ref 28, .int (nI a), .int (nI b)], [.int ((nI ed) + (nI 1)), .ref 28], MW (upA A 29 (upd (upd (A 29) a (nI ((nb a) ||| (2 ^ b)))) b (nI ((nb b) ||| (2 ^ a))))) B F sw, 0, 0)) 2 rfl ?_
  rw [nI_add]
  refine wp_go (f' := (86, [.ref 28, .int (nI a), .int (nI b)], [.int (nI (ed + 1))], MW (upA A 29 (upd (upd (A 29) a (nI ((nb a) ||| (2 ^ b)))) b (nI ((nb b) ||| (2 ^ a))))) B (upF F 7 (nI (ed + 1))) sw, 0, 0)) 3 rfl ?_
  exact wp_iret rfl
theorem ev_part_none (hM : MI A F n nb) {ed : Nat} (hE : F 7 = nI ed) (hed : ed ≤ 20) {a b : Nat} (ha : a < n) (hb : b < n) (hx : (nb a).testBit b = false) : mv_Ev xs Ls 3 89 [.ref 28, .int (nI a), .int (nI b)] (MW A B F sw) (some (.int (-1)), MW A B F sw, 0, 0) := by
  refine ev_of_wp rfl rfl rfl ?_
  have hn := hM.1
  have hna := hM.2.2.2 a (by omega)
  have hnb2 := hM.2.2.2 b (by omega)
  refine wp_go (f' := (2, [.ref 28, .int (nI a), .int (nI b)], [.int (nI a), .ref 28], MW A B F sw, 0, 0)) 2 rfl ?_
  refine wp_call rfl rfl rfl (ev_up (ev_isV_t hM (a := a) (by omega)) (by decide)) ?_
  refine wp_eq (f' := (5, [.ref 28, .int (nI a), .int (nI b)], [.int (nI 1)], MW A B F sw, 0, 0)) rfl ?_
  refine wp_go (f' := ((if (nI 1) = 0 then 16 else 8), [.ref 28, .int (nI a), .int (nI b)], [], MW A B F sw, 0, 0)) 1 rfl ?_
  refine wp_ite (fun h9 => absurd h9 (by decide : ¬ nI 1 = 0)) (fun _ => ?_)
  refine wp_go (f' := (10, [.ref 28, .int (nI a), .int (nI b)], [.int (nI b), .ref 28], MW A B F sw, 0, 0)) 2 rfl ?_
  refine wp_call rfl rfl rfl (ev_up (ev_isV_t hM (a := b) (by omega)) (by decide)) ?_
  refine wp_eq (f' := (13, [.ref 28, .int (nI a), .int (nI b)], [.int (nI 1)], MW A B F sw, 0, 0)) rfl ?_
  refine wp_go (f' := ((if ¬ (nI 1) = 0 then 19 else 16), [.ref 28, .int (nI a), .int (nI b)], [], MW A B F sw, 0, 0)) 1 rfl ?_
  refine wp_ite (fun _ => ?_) (fun h9 => absurd (by decide : ¬ nI 1 = 0) h9)
  refine wp_go (f' := (22, [.ref 28, .int (nI a), .int (nI b)], [.int (nI b), .int (nI a), .ref 28], MW A B F sw, 0, 0)) 3 rfl ?_
  refine wp_call rfl rfl rfl (ev_up (ev_isEdge hM a b (by omega) (by omega)) (by decide)) ?_
  refine wp_eq (f' := (25, [.ref 28, .int (nI a), .int (nI b)], [.int (bI ((nb a).testBit b))], MW A B F sw, 0, 0)) rfl ?_
  refine wp_go (f' := ((if ¬ (bI ((nb a).testBit b)) = 0 then 30 else 28), [.ref 28, .int (nI a), .int (nI b)], [], MW A B F sw, 0, 0)) 1 rfl ?_
  refine wp_ite (fun h9 => absurd h9 (fun h8 => h8 (bI_f hx))) (fun _ => ?_)
  refine wp_go (f' := (29, [.ref 28, .int (nI a), .int (nI b)], [.int (-1)], MW A B F sw, 0, 0)) 1 rfl ?_
  exact wp_iret rfl
theorem ev_part_ok (hM : MI A F n nb) {ed : Nat} (hE : F 7 = nI ed) (hed : ed ≤ 20) {a b : Nat} (ha : a < n) (hb : b < n) (hab : a ≠ b) (h0 : 1 ≤ ed) (hx : (nb a).testBit b = true) : mv_Ev xs Ls 3 89 [.ref 28, .int (nI a), .int (nI b)] (MW A B F sw) (some (.int (nI (ed - 1))), MW (upA A 29 (upd (upd (A 29) a (nI (sd (nb a) (2 ^ b)))) b (nI (sd (nb b) (2 ^ a))))) B (upF F 7 (nI (ed - 1))) sw, 0, 0) := by
  refine ev_of_wp rfl rfl rfl ?_
  have hn := hM.1
  have hna := hM.2.2.2 a (by omega)
  have hnb2 := hM.2.2.2 b (by omega)
  refine wp_go (f' := (2, [.ref 28, .int (nI a), .int (nI b)], [.int (nI a), .ref 28], MW A B F sw, 0, 0)) 2 rfl ?_
  refine wp_call rfl rfl rfl (ev_up (ev_isV_t hM (a := a) (by omega)) (by decide)) ?_
  refine wp_eq (f' := (5, [.ref 28, .int (nI a), .int (nI b)], [.int (nI 1)], MW A B F sw, 0, 0)) rfl ?_
  refine wp_go (f' := ((if (nI 1) = 0 then 16 else 8), [.ref 28, .int (nI a), .int (nI b)], [], MW A B F sw, 0, 0)) 1 rfl ?_
  refine wp_ite (fun h9 => absurd h9 (by decide : ¬ nI 1 = 0)) (fun _ => ?_)
  refine wp_go (f' := (10, [.ref 28, .int (nI a), .int (nI b)], [.int (nI b), .ref 28], MW A B F sw, 0, 0)) 2 rfl ?_
  refine wp_call rfl rfl rfl (ev_up (ev_isV_t hM (a := b) (by omega)) (by decide)) ?_
  refine wp_eq (f' := (13, [.ref 28, .int (nI a), .int (nI b)], [.int (nI 1)], MW A B F sw, 0, 0)) rfl ?_
  refine wp_go (f' := ((if ¬ (nI 1) = 0 then 19 else 16), [.ref 28, .int (nI a), .int (nI b)], [], MW A B F sw, 0, 0)) 1 rfl ?_
  refine wp_ite (fun _ => ?_) (fun h9 => absurd (by decide : ¬ nI 1 = 0) h9)
  refine wp_go (f' := (22, [.ref 28, .int (nI a), .int (nI b)], [.int (nI b), .int (nI a), .ref 28], MW A B F sw, 0, 0)) 3 rfl ?_
  refine wp_call rfl rfl rfl (ev_up (ev_isEdge hM a b (by omega) (by omega)) (by decide)) ?_
  refine wp_eq (f' := (25, [.ref 28, .int (nI a), .int (nI b)], [.int (bI ((nb a).testBit b))], MW A B F sw, 0, 0)) rfl ?_
  refine wp_go (f' := ((if ¬ (bI ((nb a).testBit b)) = 0 then 30 else 28), [.ref 28, .int (nI a), .int (nI b)], [], MW A B F sw, 0, 0)) 1 rfl ?_
  refine wp_ite (fun _ => ?_) (fun h9 => absurd (by rw [bI_t hx]; decide) h9)
  refine wp_go (f' := (36, [.ref 28, .int (nI a), .int (nI b)], [.int (nI a), .ref 29, .int (nI a), .ref 29], MW A B F sw, 0, 0)) 4 rfl ?_
  refine wp_iald rfl rfl (by omega) (by decide) ?_
  rw [hM.2.2.1 a (by omega)]
  have hnb := hM.2.2.2 a (by omega)
  refine wp_go (f' := (40, [.ref 28, .int (nI a), .int (nI b)], [.int ((nI 1) <<< ((nI b) &&& 31)), .int (nI (nb a)), .int (nI a), .ref 29], MW A B F sw, 0, 0)) 3 rfl ?_
  rw [bx_one (by omega)]
  have hb1 : 2 ^ b < 1024 := by first | omega | exact or_lt (by omega) (by omega) | exact and_lt (by omega) | exact and_lt_r (by omega) | exact sd_lt (by omega) | exact pow_lt (by omega)
  refine wp_go (f' := (43, [.ref 28, .int (nI a), .int (nI b)], [.int ((nI (nb a)) &&& ((nI (2 ^ b)) ^^^ (-1))), .int (nI a), .ref 29], MW A B F sw, 0, 0)) 3 rfl ?_
  rw [bx_sd (by omega)]
  have hb2 : sd (nb a) (2 ^ b) < 1024 := by first | omega | exact or_lt (by omega) (by omega) | exact and_lt (by omega) | exact and_lt_r (by omega) | exact sd_lt (by omega) | exact pow_lt (by omega)
  refine wp_iast rfl rfl (by omega) (by decide) ?_
  refine wp_eq (f' := (44, [.ref 28, .int (nI a), .int (nI b)], [], MW (upA A 29 (upd (A 29) a (nI (sd (nb a) (2 ^ b))))) B F sw, 0, 0)) rfl ?_
  refine wp_go (f' := (50, [.ref 28, .int (nI a), .int (nI b)], [.int (nI b), .ref 29, .int (nI b), .ref 29], MW (upA A 29 (upd (A 29) a (nI (sd (nb a) (2 ^ b))))) B F sw, 0, 0)) 4 rfl ?_
  refine wp_iald rfl rfl (by omega) (by decide) ?_
  refine wp_eq (f' := (51, [.ref 28, .int (nI a), .int (nI b)], [.int ((upd (A 29) a (nI (sd (nb a) (2 ^ b)))) b), .int (nI b), .ref 29], MW (upA A 29 (upd (A 29) a (nI (sd (nb a) (2 ^ b))))) B F sw, 0, 0)) rfl ?_
  rw [pk_un (fun h8 => hab h8.symm), hM.2.2.1 b (by omega)]
  refine wp_go (f' := (54, [.ref 28, .int (nI a), .int (nI b)], [.int ((nI 1) <<< ((nI a) &&& 31)), .int (nI (nb b)), .int (nI b), .ref 29], MW (upA A 29 (upd (A 29) a (nI (sd (nb a) (2 ^ b))))) B F sw, 0, 0)) 3 rfl ?_
  rw [bx_one (by omega)]
  have hb3 : 2 ^ a < 1024 := by first | omega | exact or_lt (by omega) (by omega) | exact and_lt (by omega) | exact and_lt_r (by omega) | exact sd_lt (by omega) | exact pow_lt (by omega)
  refine wp_go (f' := (57, [.ref 28, .int (nI a), .int (nI b)], [.int ((nI (nb b)) &&& ((nI (2 ^ a)) ^^^ (-1))), .int (nI b), .ref 29], MW (upA A 29 (upd (A 29) a (nI (sd (nb a) (2 ^ b))))) B F sw, 0, 0)) 3 rfl ?_
  rw [bx_sd (by omega)]
  have hb4 : sd (nb b) (2 ^ a) < 1024 := by first | omega | exact or_lt (by omega) (by omega) | exact and_lt (by omega) | exact and_lt_r (by omega) | exact sd_lt (by omega) | exact pow_lt (by omega)
  refine wp_iast rfl rfl (by omega) (by decide) ?_
  refine wp_eq (f' := (58, [.ref 28, .int (nI a), .int (nI b)], [], MW (upA A 29 (upd (upd (A 29) a (nI (sd (nb a) (2 ^ b)))) b (nI (sd (nb b) (2 ^ a))))) B F sw, 0, 0)) rfl ?_
  refine wp_go (f' := (63, [.ref 28, .int (nI a), .int (nI b)], [.int (F 7), .ref 28], MW (upA A 29 (upd (upd (A 29) a (nI (sd (nb a) (2 ^ b)))) b (nI (sd (nb b) (2 ^ a))))) B F sw, 0, 0)) 3 rfl ?_
  rw [hE]
  refine wp_go (f' := (65, [.ref 28, .int (nI a), .int (nI b)], [.int ((nI ed) - (nI 1)), .ref 28], MW (upA A 29 (upd (upd (A 29) a (nI (sd (nb a) (2 ^ b)))) b (nI (sd (nb b) (2 ^ a))))) B F sw, 0, 0)) 2 rfl ?_
  rw [pk_sub (by omega)]
  refine wp_go (f' := (72, [.ref 28, .int (nI a), .int (nI b)], [.int (nI (ed - 1))], MW (upA A 29 (upd (upd (A 29) a (nI (sd (nb a) (2 ^ b)))) b (nI (sd (nb b) (2 ^ a))))) B (upF F 7 (nI (ed - 1))) sw, 0, 0)) 3 rfl ?_
  exact wp_iret rfl
theorem ev_weigh_f1 (hM : MI A F n nb) {v x : Int32} (hv : isV v n = false) : mv_Ev xs Ls 3 90 [.ref 28, .int v, .int x] (MW A B F sw) (some (.int (-2)), MW A B F sw, 0, 0) := by
  refine ev_of_wp rfl rfl rfl ?_
  have hn := hM.1
  refine wp_go (f' := (2, [.ref 28, .int v, .int x, .retAddr 0], [.int v, .ref 28], MW A B F sw, 0, 0)) 2 rfl ?_
  refine wp_call rfl rfl rfl (ev_up (ev_isV_f hM hv) (by decide)) ?_
  refine wp_eq (f' := (5, [.ref 28, .int v, .int x, .retAddr 0], [.int (nI 0)], MW A B F sw, 0, 0)) rfl ?_
  refine wp_go (f' := ((if (nI 0) = 0 then 19 else 8), [.ref 28, .int v, .int x, .retAddr 0], [], MW A B F sw, 0, 0)) 1 rfl ?_
  refine wp_ite (fun _ => ?_) (fun h9 => absurd (rfl : nI 0 = 0) h9)
  refine wp_go (f' := (21, [.ref 28, .int v, .int x, .retAddr 0], [.int (-2)], MW A B F sw, 0, 0)) 1 rfl ?_
  exact wp_iret rfl
theorem ev_weigh_f2 (hM : MI A F n nb) {a : Nat} {x : Int32} (ha : a < n) (hx : (decide (nI 0 ≤ x) && decide (x ≤ nI 1000)) = false) : mv_Ev xs Ls 3 90 [.ref 28, .int (nI a), .int x] (MW A B F sw) (some (.int (-2)), MW A B F sw, 0, 0) := by
  refine ev_of_wp rfl rfl rfl ?_
  have hn := hM.1
  refine wp_go (f' := (2, [.ref 28, .int (nI a), .int x, .retAddr 0], [.int (nI a), .ref 28], MW A B F sw, 0, 0)) 2 rfl ?_
  refine wp_call rfl rfl rfl (ev_up (ev_isV_t hM (a := a) (by omega)) (by decide)) ?_
  refine wp_eq (f' := (5, [.ref 28, .int (nI a), .int x, .retAddr 0], [.int (nI 1)], MW A B F sw, 0, 0)) rfl ?_
  refine wp_go (f' := ((if (nI 1) = 0 then 19 else 8), [.ref 28, .int (nI a), .int x, .retAddr 0], [], MW A B F sw, 0, 0)) 1 rfl ?_
  refine wp_ite (fun h9 => absurd h9 (by decide : ¬ nI 1 = 0)) (fun _ => ?_)
  refine wp_go (f' := (13, [.ref 28, .int (nI a), .int x, .retAddr 0], [.int (nI 1000), .int (nI 0), .int x], MW A B F sw, 0, 0)) 3 rfl ?_
  refine wp_call rfl rfl rfl (ev_up (ev_isIn x (nI 0) (nI 1000) _) (by decide)) ?_
  refine wp_eq (f' := (16, [.ref 28, .int (nI a), .int x, .retAddr 0], [.int (bI (decide (nI 0 ≤ x) && decide (x ≤ nI 1000)))], MW A B F sw, 0, 0)) rfl ?_
  refine wp_go (f' := ((if ¬ (bI (decide (nI 0 ≤ x) && decide (x ≤ nI 1000))) = 0 then 22 else 19), [.ref 28, .int (nI a), .int x, .retAddr 0], [], MW A B F sw, 0, 0)) 1 rfl ?_
  refine wp_ite (fun h9 => absurd h9 (fun h8 => h8 (bI_f hx))) (fun _ => ?_)
  refine wp_go (f' := (21, [.ref 28, .int (nI a), .int x, .retAddr 0], [.int (-2)], MW A B F sw, 0, 0)) 1 rfl ?_
  exact wp_iret rfl
theorem ev_weigh_ok (hM : MI A F n nb) {wt : Nat → Nat} (hw : MWt A wt) {a : Nat} {x : Int32} (ha : a < n) (hx : (decide (nI 0 ≤ x) && decide (x ≤ nI 1000)) = true) : mv_Ev xs Ls 3 90 [.ref 28, .int (nI a), .int x] (MW A B F sw) (some (.int (nI (wt a))), MW (upA A 30 (upd (A 30) a x)) B F sw, 0, 0) := by
  refine ev_of_wp rfl rfl rfl ?_
  have hn := hM.1
  refine wp_go (f' := (2, [.ref 28, .int (nI a), .int x, .retAddr 0], [.int (nI a), .ref 28], MW A B F sw, 0, 0)) 2 rfl ?_
  refine wp_call rfl rfl rfl (ev_up (ev_isV_t hM (a := a) (by omega)) (by decide)) ?_
  refine wp_eq (f' := (5, [.ref 28, .int (nI a), .int x, .retAddr 0], [.int (nI 1)], MW A B F sw, 0, 0)) rfl ?_
  refine wp_go (f' := ((if (nI 1) = 0 then 19 else 8), [.ref 28, .int (nI a), .int x, .retAddr 0], [], MW A B F sw, 0, 0)) 1 rfl ?_
  refine wp_ite (fun h9 => absurd h9 (by decide : ¬ nI 1 = 0)) (fun _ => ?_)
  refine wp_go (f' := (13, [.ref 28, .int (nI a), .int x, .retAddr 0], [.int (nI 1000), .int (nI 0), .int x], MW A B F sw, 0, 0)) 3 rfl ?_
  refine wp_call rfl rfl rfl (ev_up (ev_isIn x (nI 0) (nI 1000) _) (by decide)) ?_
  refine wp_eq (f' := (16, [.ref 28, .int (nI a), .int x, .retAddr 0], [.int (bI (decide (nI 0 ≤ x) && decide (x ≤ nI 1000)))], MW A B F sw, 0, 0)) rfl ?_
  refine wp_go (f' := ((if ¬ (bI (decide (nI 0 ≤ x) && decide (x ≤ nI 1000))) = 0 then 22 else 19), [.ref 28, .int (nI a), .int x, .retAddr 0], [], MW A B F sw, 0, 0)) 1 rfl ?_
  refine wp_ite (fun _ => ?_) (fun h9 => absurd (by rw [bI_t hx]; decide) h9)
  refine wp_go (f' := (27, [.ref 28, .int (nI a), .int x, .retAddr 0], [.int (nI a), .ref 30], MW A B F sw, 0, 0)) 3 rfl ?_
  refine wp_iald rfl rfl (by omega) (by decide) ?_
  rw [(hw a (by omega)).1]
  refine wp_go (f' := (35, [.ref 28, .int (nI a), .int x, .int (nI (wt a))], [.int x, .int (nI a), .ref 30], MW A B F sw, 0, 0)) 5 rfl ?_
  refine wp_iast rfl rfl (by omega) (by decide) ?_
  refine wp_eq (f' := (36, [.ref 28, .int (nI a), .int x, .int (nI (wt a))], [], MW (upA A 30 (upd (A 30) a x)) B F sw, 0, 0)) rfl ?_
  refine wp_go (f' := (37, [.ref 28, .int (nI a), .int x, .int (nI (wt a))], [.int (nI (wt a))], MW (upA A 30 (upd (A 30) a x)) B F sw, 0, 0)) 1 rfl ?_
  exact wp_iret rfl
theorem ev_begin_f {v : Int32} (hv : (decide (nI 0 ≤ v) && decide (v ≤ nI 10)) = false) : mv_Ev xs Ls 2 84 [.ref 28, .int v] (MW A B F sw) (some (.int (-2)), MW A B F sw, 0, 0) := by
  refine ev_of_wp rfl rfl rfl ?_
  refine wp_go (f' := (4, [.ref 28, .int v, .retAddr 0, .retAddr 0], [.int (nI 10), .int (nI 0), .int v], MW A B F sw, 0, 0)) 3 rfl ?_
  refine wp_call rfl rfl rfl (ev_up (ev_isIn v (nI 0) (nI 10) _) (by decide)) ?_
  refine wp_eq (f' := (7, [.ref 28, .int v, .retAddr 0, .retAddr 0], [.int (bI (decide (nI 0 ≤ v) && decide (v ≤ nI 10)))], MW A B F sw, 0, 0)) rfl ?_
  refine wp_go (f' := ((if ¬ (bI (decide (nI 0 ≤ v) && decide (v ≤ nI 10))) = 0 then 13 else 10), [.ref 28, .int v, .retAddr 0, .retAddr 0], [], MW A B F sw, 0, 0)) 1 rfl ?_
  refine wp_ite (fun h9 => absurd h9 (fun h8 => h8 (bI_f hv))) (fun _ => ?_)
  refine wp_go (f' := (12, [.ref 28, .int v, .retAddr 0, .retAddr 0], [.int (-2)], MW A B F sw, 0, 0)) 1 rfl ?_
  exact wp_iret rfl
/-- ten empty rows, ten weights 1 -/
def cleared (A : Nat → Nat → Int32) (x y : Nat) : (Nat → Int32) × (Nat → Int32) := forN (fun k q => (upd q.1 k (nI 0), upd q.2 k (nI 1))) 10 (A x, A y)
theorem ev_begin_ok {v : Int32} (hv : (decide (nI 0 ≤ v) && decide (v ≤ nI 10)) = true) : mv_Ev xs Ls 2 84 [.ref 28, .int v] (MW A B F sw) (some (.int (F 6)), MW (upA (upA A 29 (cleared A 29 30).1) 30 (cleared A 29 30).2) B (upF (upF F 6 v) 7 (nI 0)) sw, 0, 0) := by
  refine ev_of_wp rfl rfl rfl ?_
  refine wp_go (f' := (4, [.ref 28, .int v, .retAddr 0, .retAddr 0], [.int (nI 10), .int (nI 0), .int v], MW A B F sw, 0, 0)) 3 rfl ?_
  refine wp_call rfl rfl rfl (ev_up (ev_isIn v (nI 0) (nI 10) _) (by decide)) ?_
  refine wp_eq (f' := (7, [.ref 28, .int v, .retAddr 0, .retAddr 0], [.int (bI (decide (nI 0 ≤ v) && decide (v ≤ nI 10)))], MW A B F sw, 0, 0)) rfl ?_
  refine wp_go (f' := ((if ¬ (bI (decide (nI 0 ≤ v) && decide (v ≤ nI 10))) = 0 then 13 else 10), [.ref 28, .int v, .retAddr 0, .retAddr 0], [], MW A B F sw, 0, 0)) 1 rfl ?_
  refine wp_ite (fun _ => ?_) (fun h9 => absurd (by rw [bI_t hv]; decide) h9)
  refine wp_go (f' := (30, [.ref 28, .int v, .int (F 6), .int (nI 0)], [], MW A B (upF (upF F 6 v) 7 (nI 0)) sw, 0, 0)) 11 rfl ?_
  refine wp_eq (f' := (30, [.ref 28, .int v, .int (F 6), .int (nI 0)], [], MW (upA (upA A 29 (A 29)) 30 (A 30)) B (upF (upF F 6 v) 7 (nI 0)) sw, 0, 0)) rfl ?_
  refine for_ind (P := fun (k : Nat) (q : (Nat → Int32) × (Nat → Int32)) => mv_Wp xs Ls 1 6 false (some .int) mv_c84 (30, [.ref 28, .int v, .int (F 6), .int (nI k)], [], MW (upA (upA A 29 q.1) 30 q.2) B (upF (upF F 6 v) 7 (nI 0)) sw, 0, 0) (some (.int (F 6)), MW (upA (upA A 29 (cleared A 29 30).1) 30 (cleared A 29 30).2) B (upF (upF F 6 v) 7 (nI 0)) sw, 0, 0)) (f := fun k q => (upd q.1 k (nI 0), upd q.2 k (nI 1))) (n := 10) ?_ 10 (A 29, A 30) (Nat.le_refl _) ?_
  · intro k q hk ih
    refine wp_go (f' := ((if (nI 10) ≤ (nI k) then 56 else 36), [.ref 28, .int v, .int (F 6), .int (nI k)], [], MW (upA (upA A 29 q.1) 30 q.2) B (upF (upF F 6 v) 7 (nI 0)) sw, 0, 0)) 3 rfl ?_
    refine wp_ite (fun h9 => absurd h9 (nI_ge hk (by omega))) (fun _ => ?_)
    refine wp_go (f' := (42, [.ref 28, .int v, .int (F 6), .int (nI k)], [.int (nI 0), .int (nI k), .ref 29], MW (upA (upA A 29 q.1) 30 q.2) B (upF (upF F 6 v) 7 (nI 0)) sw, 0, 0)) 4 rfl ?_
    refine wp_iast rfl rfl (by omega) (by decide) ?_
    refine wp_eq (f' := (43, [.ref 28, .int v, .int (F 6), .int (nI k)], [], MW (upA (upA A 30 q.2) 29 (upd q.1 k (nI 0))) B (upF (upF F 6 v) 7 (nI 0)) sw, 0, 0)) rfl ?_
    refine wp_go (f' := (49, [.ref 28, .int v, .int (F 6), .int (nI k)], [.int (nI 1), .int (nI k), .ref 30], MW (upA (upA A 30 q.2) 29 (upd q.1 k (nI 0))) B (upF (upF F 6 v) 7 (nI 0)) sw, 0, 0)) 4 rfl ?_
    refine wp_iast rfl rfl (by omega) (by decide) ?_
    refine wp_eq (f' := (50, [.ref 28, .int v, .int (F 6), .int (nI k)], [], MW (upA (upA A 29 (upd q.1 k (nI 0))) 30 (upd q.2 k (nI 1))) B (upF (upF F 6 v) 7 (nI 0)) sw, 0, 0)) rfl ?_
    refine wp_go (f' := (53, [.ref 28, .int v, .int (F 6), .int ((nI k) + 1)], [], MW (upA (upA A 29 (upd q.1 k (nI 0))) 30 (upd q.2 k (nI 1))) B (upF (upF F 6 v) 7 (nI 0)) sw, 0, 0)) 1 rfl ?_
    rw [nI_1]
    refine wp_go (f' := (30, [.ref 28, .int v, .int (F 6), .int (nI (k + 1))], [], MW (upA (upA A 29 (upd q.1 k (nI 0))) 30 (upd q.2 k (nI 1))) B (upF (upF F 6 v) 7 (nI 0)) sw, 0, 0)) 1 rfl ?_
    exact ih
  · skip
    refine wp_go (f' := ((if (nI 10) ≤ (nI 10) then 56 else 36), [.ref 28, .int v, .int (F 6), .int (nI 10)], [], MW (upA (upA A 29 (cleared A 29 30).1) 30 (cleared A 29 30).2) B (upF (upF F 6 v) 7 (nI 0)) sw, 0, 0)) 3 rfl ?_
    refine wp_ite (fun _ => ?_) (fun h9 => absurd (nI_le (Nat.le_refl _) (by omega)) h9)
    refine wp_go (f' := (57, [.ref 28, .int v, .int (F 6), .int (nI 10)], [.int (F 6)], MW (upA (upA A 29 (cleared A 29 30).1) 30 (cleared A 29 30).2) B (upF (upF F 6 v) 7 (nI 0)) sw, 0, 0)) 1 rfl ?_
    exact wp_iret rfl
/-- set k, by rising numbers from s on, of those that p names (NONE: -1) -/
def pickN (p : Nat → Bool) (k : Int32) : Nat → Nat → Nat → Int32
  | 0, _, _ => -1
  | f + 1, s, m => if p s then (if nI m = k then nI s else pickN p k f (s + 1) (m + 1)) else pickN p k f (s + 1) m
theorem pow10 {n : Nat} (hn : n ≤ 10) : 2 ^ n ≤ 1024 := Nat.pow_le_pow_right (n := 2) (by omega) hn
theorem lp_M_separator (hM : MI A F n nb) {k : Int32} (hk : ¬ k < 0) : ∀ (f s m : Nat), s + f = 2 ^ n → m ≤ s → mv_Wp xs Ls 3 6 false (some .int) mv_c101 (4, [.ref 28, .int k, .int (nI m), .int (nI s)], [], MW A B F sw, 0, 0) (some (.int (pickN (sepN n nb) k f s m)), MW A B F sw, 0, 0) := by
  have hn := hM.1
  have hp := pow10 hn
  have hp1 : 1 ≤ 2 ^ n := Nat.one_le_two_pow
  intro f
  induction f with
  | zero =>
    intro s m hs hms
    refine wp_go (f' := (6, [.ref 28, .int k, .int (nI m), .int (nI s)], [.ref 28, .int (nI s)], MW A B F sw, 0, 0)) 2 rfl ?_
    refine wp_call rfl rfl rfl (ev_up (ev_all hM) (by decide)) ?_
    refine wp_eq (f' := (9, [.ref 28, .int k, .int (nI m), .int (nI s)], [.int (nI (2 ^ n - 1)), .int (nI s)], MW A B F sw, 0, 0)) rfl ?_
    refine wp_go (f' := ((if (nI (2 ^ n - 1)) < (nI s) then 40 else 12), [.ref 28, .int k, .int (nI m), .int (nI s)], [], MW A B F sw, 0, 0)) 1 rfl ?_
    refine wp_ite (fun _ => ?_) (fun h9 => absurd (nI_lt (by omega) (by omega)) h9)
    refine wp_go (f' := (41, [.ref 28, .int k, .int (nI m), .int (nI s)], [.int (-1)], MW A B F sw, 0, 0)) 1 rfl ?_
    exact wp_iret rfl
  | succ f ih =>
    intro s m hs hms
    refine wp_go (f' := (6, [.ref 28, .int k, .int (nI m), .int (nI s)], [.ref 28, .int (nI s)], MW A B F sw, 0, 0)) 2 rfl ?_
    refine wp_call rfl rfl rfl (ev_up (ev_all hM) (by decide)) ?_
    refine wp_eq (f' := (9, [.ref 28, .int k, .int (nI m), .int (nI s)], [.int (nI (2 ^ n - 1)), .int (nI s)], MW A B F sw, 0, 0)) rfl ?_
    refine wp_go (f' := ((if (nI (2 ^ n - 1)) < (nI s) then 40 else 12), [.ref 28, .int k, .int (nI m), .int (nI s)], [], MW A B F sw, 0, 0)) 1 rfl ?_
    refine wp_ite (fun h9 => absurd h9 (nI_nlt (by omega) (by omega))) (fun _ => ?_)
    refine wp_go (f' := ((if k < 0 then 40 else 16), [.ref 28, .int k, .int (nI m), .int (nI s)], [], MW A B F sw, 0, 0)) 2 rfl ?_
    refine wp_ite (fun h9 => absurd h9 hk) (fun _ => ?_)
    refine wp_go (f' := (18, [.ref 28, .int k, .int (nI m), .int (nI s)], [.int (nI s), .ref 28], MW A B F sw, 0, 0)) 2 rfl ?_
    refine wp_call rfl rfl rfl (ev_up (ev_isSeparator hM (s := s) (by omega)) (by decide)) ?_
    refine wp_eq (f' := (21, [.ref 28, .int k, .int (nI m), .int (nI s)], [.int (bI (sepN n nb s))], MW A B F sw, 0, 0)) rfl ?_
    refine wp_go (f' := ((if (bI (sepN n nb s)) = 0 then 34 else 24), [.ref 28, .int k, .int (nI m), .int (nI s)], [], MW A B F sw, 0, 0)) 1 rfl ?_
    refine wp_ite (fun h1 => ?_) (fun h1 => ?_)
    · have h1 := bI_0.mp h1
      refine wp_go (f' := (37, [.ref 28, .int k, .int (nI m), .int ((nI s) + 1)], [], MW A B F sw, 0, 0)) 1 rfl ?_
      rw [nI_1]
      refine wp_go (f' := (4, [.ref 28, .int k, .int (nI m), .int (nI (s + 1))], [], MW A B F sw, 0, 0)) 1 rfl ?_
      simp only [pickN, h1, if_true, if_false, Bool.false_eq_true, reduceIte]
      exact ih (s + 1) m (by omega) (by omega)
    · have h1 := bI_n0 h1
      refine wp_go (f' := ((if ¬ (nI m) = k then 31 else 29), [.ref 28, .int k, .int (nI m), .int (nI s)], [], MW A B F sw, 0, 0)) 3 rfl ?_
      refine wp_ite (fun h2 => ?_) (fun h2 => ?_)
      · skip
        refine wp_go (f' := (34, [.ref 28, .int k, .int ((nI m) + 1), .int (nI s)], [], MW A B F sw, 0, 0)) 1 rfl ?_
        rw [nI_1]
        refine wp_go (f' := (37, [.ref 28, .int k, .int (nI (m + 1)), .int ((nI s) + 1)], [], MW A B F sw, 0, 0)) 1 rfl ?_
        rw [nI_1]
        refine wp_go (f' := (4, [.ref 28, .int k, .int (nI (m + 1)), .int (nI (s + 1))], [], MW A B F sw, 0, 0)) 1 rfl ?_
        simp only [pickN, h1, if_true, if_false, Bool.false_eq_true, reduceIte, if_neg h2]
        exact ih (s + 1) (m + 1) (by omega) (by omega)
      · have h2 := Classical.not_not.mp h2
        refine wp_go (f' := (30, [.ref 28, .int k, .int (nI m), .int (nI s)], [.int (nI s)], MW A B F sw, 0, 0)) 1 rfl ?_
        simp only [pickN, h1, if_true, reduceIte, if_pos h2]
        exact wp_iret rfl
theorem lp_M_clique (hM : MI A F n nb) {k : Int32} (hk : ¬ k < 0) : ∀ (f s m : Nat), s + f = 2 ^ n → m ≤ s → mv_Wp xs Ls 2 6 false (some .int) mv_c104 (4, [.ref 28, .int k, .int (nI m), .int (nI s)], [], MW A B F sw, 0, 0) (some (.int (pickN (cliqueN n nb) k f s m)), MW A B F sw, 0, 0) := by
  have hn := hM.1
  have hp := pow10 hn
  have hp1 : 1 ≤ 2 ^ n := Nat.one_le_two_pow
  intro f
  induction f with
  | zero =>
    intro s m hs hms
    refine wp_go (f' := (6, [.ref 28, .int k, .int (nI m), .int (nI s)], [.ref 28, .int (nI s)], MW A B F sw, 0, 0)) 2 rfl ?_
    refine wp_call rfl rfl rfl (ev_up (ev_all hM) (by decide)) ?_
    refine wp_eq (f' := (9, [.ref 28, .int k, .int (nI m), .int (nI s)], [.int (nI (2 ^ n - 1)), .int (nI s)], MW A B F sw, 0, 0)) rfl ?_
    refine wp_go (f' := ((if (nI (2 ^ n - 1)) < (nI s) then 40 else 12), [.ref 28, .int k, .int (nI m), .int (nI s)], [], MW A B F sw, 0, 0)) 1 rfl ?_
    refine wp_ite (fun _ => ?_) (fun h9 => absurd (nI_lt (by omega) (by omega)) h9)
    refine wp_go (f' := (41, [.ref 28, .int k, .int (nI m), .int (nI s)], [.int (-1)], MW A B F sw, 0, 0)) 1 rfl ?_
    exact wp_iret rfl
  | succ f ih =>
    intro s m hs hms
    refine wp_go (f' := (6, [.ref 28, .int k, .int (nI m), .int (nI s)], [.ref 28, .int (nI s)], MW A B F sw, 0, 0)) 2 rfl ?_
    refine wp_call rfl rfl rfl (ev_up (ev_all hM) (by decide)) ?_
    refine wp_eq (f' := (9, [.ref 28, .int k, .int (nI m), .int (nI s)], [.int (nI (2 ^ n - 1)), .int (nI s)], MW A B F sw, 0, 0)) rfl ?_
    refine wp_go (f' := ((if (nI (2 ^ n - 1)) < (nI s) then 40 else 12), [.ref 28, .int k, .int (nI m), .int (nI s)], [], MW A B F sw, 0, 0)) 1 rfl ?_
    refine wp_ite (fun h9 => absurd h9 (nI_nlt (by omega) (by omega))) (fun _ => ?_)
    refine wp_go (f' := ((if k < 0 then 40 else 16), [.ref 28, .int k, .int (nI m), .int (nI s)], [], MW A B F sw, 0, 0)) 2 rfl ?_
    refine wp_ite (fun h9 => absurd h9 hk) (fun _ => ?_)
    refine wp_go (f' := (18, [.ref 28, .int k, .int (nI m), .int (nI s)], [.int (nI s), .ref 28], MW A B F sw, 0, 0)) 2 rfl ?_
    refine wp_call rfl rfl rfl (ev_up (ev_isClique hM (s := s) (by omega)) (by decide)) ?_
    refine wp_eq (f' := (21, [.ref 28, .int k, .int (nI m), .int (nI s)], [.int (bI (cliqueN n nb s))], MW A B F sw, 0, 0)) rfl ?_
    refine wp_go (f' := ((if (bI (cliqueN n nb s)) = 0 then 34 else 24), [.ref 28, .int k, .int (nI m), .int (nI s)], [], MW A B F sw, 0, 0)) 1 rfl ?_
    refine wp_ite (fun h1 => ?_) (fun h1 => ?_)
    · have h1 := bI_0.mp h1
      refine wp_go (f' := (37, [.ref 28, .int k, .int (nI m), .int ((nI s) + 1)], [], MW A B F sw, 0, 0)) 1 rfl ?_
      rw [nI_1]
      refine wp_go (f' := (4, [.ref 28, .int k, .int (nI m), .int (nI (s + 1))], [], MW A B F sw, 0, 0)) 1 rfl ?_
      simp only [pickN, h1, if_true, if_false, Bool.false_eq_true, reduceIte]
      exact ih (s + 1) m (by omega) (by omega)
    · have h1 := bI_n0 h1
      refine wp_go (f' := ((if ¬ (nI m) = k then 31 else 29), [.ref 28, .int k, .int (nI m), .int (nI s)], [], MW A B F sw, 0, 0)) 3 rfl ?_
      refine wp_ite (fun h2 => ?_) (fun h2 => ?_)
      · skip
        refine wp_go (f' := (34, [.ref 28, .int k, .int ((nI m) + 1), .int (nI s)], [], MW A B F sw, 0, 0)) 1 rfl ?_
        rw [nI_1]
        refine wp_go (f' := (37, [.ref 28, .int k, .int (nI (m + 1)), .int ((nI s) + 1)], [], MW A B F sw, 0, 0)) 1 rfl ?_
        rw [nI_1]
        refine wp_go (f' := (4, [.ref 28, .int k, .int (nI (m + 1)), .int (nI (s + 1))], [], MW A B F sw, 0, 0)) 1 rfl ?_
        simp only [pickN, h1, if_true, if_false, Bool.false_eq_true, reduceIte, if_neg h2]
        exact ih (s + 1) (m + 1) (by omega) (by omega)
      · have h2 := Classical.not_not.mp h2
        refine wp_go (f' := (30, [.ref 28, .int k, .int (nI m), .int (nI s)], [.int (nI s)], MW A B F sw, 0, 0)) 1 rfl ?_
        simp only [pickN, h1, if_true, reduceIte, if_pos h2]
        exact wp_iret rfl
end MM
