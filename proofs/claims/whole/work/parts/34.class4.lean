section CC
variable {xs : Nat → Int32} {Ls : Nat} {A : Nat → Nat → Int32} {B : Nat → Nat → Int64} {F : Nat → Int32} {sw : Bool} {n : Nat} {nb : Nat → Nat}
/-- after makeRows, whether or not it had to work, the rows stand -/
theorem ev_rows_any (hC : CI A F n nb) (hZ : CZ A) (hco : F 3 = F 2 → RI A n nb) : ∃ r4 r5 r6 : Nat → Int32, mv_Ev xs Ls 3 17 [.ref 1] (MW A B F sw) (none, MW (upA (upA (upA A 4 r4) 5 r5) 6 r6) B (upF F 3 (F 2)) sw, 0, 0) ∧ RI (upA (upA (upA A 4 r4) 5 r5) 6 r6) n nb ∧ CZ (upA (upA (upA A 4 r4) 5 r5) 6 r6) := by
  by_cases heq : F 3 = F 2
  · refine ⟨A 4, A 5, A 6, ?_, ?_, ?_⟩
    · rw [← heq]
      exact ev_rows0 heq
    · exact hco heq
    · exact hZ
  · refine ⟨_, _, _, ev_rows hC hZ heq, fun s hs => ⟨rowT_at hs, rowT_at hs, rowT_at hs⟩, ?_, ?_, ?_⟩
    · show rowT (rcN nb) (2 ^ n) (A 4) 0 = nI 0
      rw [rowT_at (Nat.pos_of_ne_zero (by have : 1 ≤ 2 ^ n := Nat.one_le_two_pow; omega))]; unfold rcN; rw [lowN_0]
    · show rowT (inN nb) (2 ^ n) (A 5) 0 = nI 0
      rw [rowT_at (Nat.pos_of_ne_zero (by have : 1 ≤ 2 ^ n := Nat.one_le_two_pow; omega))]; unfold inN; rw [lowN_0]
    · show rowT (pcN nb) (2 ^ n) (A 6) 0 = nI 0
      rw [rowT_at (Nat.pos_of_ne_zero (by have : 1 ≤ 2 ^ n := Nat.one_le_two_pow; omega))]; rfl
theorem ev_gStart (v : Int32) : mv_Ev xs Ls 1 7 [.ref 1, .int v] (MW A B F sw) (none, MW (upA (upA A 2 (cleared A 2 3).1) 3 (cleared A 2 3).2) B (upF (upF (upF F 0 v) 1 (nI 0)) 2 (F 2 + nI 1)) sw, 0, 0) := by
  refine ev_of_wp rfl rfl rfl ?_
  refine wp_go (f' := (22, [.ref 1, .int v, .int (nI 0)], [], MW A B (upF (upF (upF F 0 v) 1 (nI 0)) 2 ((F 2) + (nI 1))) sw, 0, 0)) 14 rfl ?_
  refine wp_eq (f' := (22, [.ref 1, .int v, .int (nI 0)], [], MW (upA (upA A 2 (A 2)) 3 (A 3)) B (upF (upF (upF F 0 v) 1 (nI 0)) 2 ((F 2) + (nI 1))) sw, 0, 0)) rfl ?_
  refine for_ind (P := fun (k : Nat) (q : (Nat → Int32) × (Nat → Int32)) => mv_Wp xs Ls 0 2 false none mv_c7 (22, [.ref 1, .int v, .int (nI k)], [], MW (upA (upA A 2 q.1) 3 q.2) B (upF (upF (upF F 0 v) 1 (nI 0)) 2 ((F 2) + (nI 1))) sw, 0, 0) (none, MW (upA (upA A 2 (cleared A 2 3).1) 3 (cleared A 2 3).2) B (upF (upF (upF F 0 v) 1 (nI 0)) 2 (F 2 + nI 1)) sw, 0, 0)) (f := fun k q => (upd q.1 k (nI 0), upd q.2 k (nI 1))) (n := 10) ?_ 10 (A 2, A 3) (Nat.le_refl _) ?_
  · intro k q hk ih
    refine wp_go (f' := ((if (nI 10) ≤ (nI k) then 48 else 28), [.ref 1, .int v, .int (nI k)], [], MW (upA (upA A 2 q.1) 3 q.2) B (upF (upF (upF F 0 v) 1 (nI 0)) 2 ((F 2) + (nI 1))) sw, 0, 0)) 3 rfl ?_
    refine wp_ite (fun h9 => absurd h9 (nI_ge hk (by omega))) (fun _ => ?_)
    refine wp_go (f' := (34, [.ref 1, .int v, .int (nI k)], [.int (nI 0), .int (nI k), .ref 2], MW (upA (upA A 2 q.1) 3 q.2) B (upF (upF (upF F 0 v) 1 (nI 0)) 2 ((F 2) + (nI 1))) sw, 0, 0)) 4 rfl ?_
    refine wp_iast rfl rfl (by omega) (by decide) ?_
    refine wp_eq (f' := (35, [.ref 1, .int v, .int (nI k)], [], MW (upA (upA A 3 q.2) 2 (upd q.1 k (nI 0))) B (upF (upF (upF F 0 v) 1 (nI 0)) 2 ((F 2) + (nI 1))) sw, 0, 0)) rfl ?_
    refine wp_go (f' := (41, [.ref 1, .int v, .int (nI k)], [.int (nI 1), .int (nI k), .ref 3], MW (upA (upA A 3 q.2) 2 (upd q.1 k (nI 0))) B (upF (upF (upF F 0 v) 1 (nI 0)) 2 ((F 2) + (nI 1))) sw, 0, 0)) 4 rfl ?_
    refine wp_iast rfl rfl (by omega) (by decide) ?_
    refine wp_eq (f' := (42, [.ref 1, .int v, .int (nI k)], [], MW (upA (upA A 2 (upd q.1 k (nI 0))) 3 (upd q.2 k (nI 1))) B (upF (upF (upF F 0 v) 1 (nI 0)) 2 ((F 2) + (nI 1))) sw, 0, 0)) rfl ?_
    refine wp_go (f' := (45, [.ref 1, .int v, .int ((nI k) + 1)], [], MW (upA (upA A 2 (upd q.1 k (nI 0))) 3 (upd q.2 k (nI 1))) B (upF (upF (upF F 0 v) 1 (nI 0)) 2 ((F 2) + (nI 1))) sw, 0, 0)) 1 rfl ?_
    rw [nI_1]
    refine wp_go (f' := (22, [.ref 1, .int v, .int (nI (k + 1))], [], MW (upA (upA A 2 (upd q.1 k (nI 0))) 3 (upd q.2 k (nI 1))) B (upF (upF (upF F 0 v) 1 (nI 0)) 2 ((F 2) + (nI 1))) sw, 0, 0)) 1 rfl ?_
    exact ih
  · skip
    refine wp_go (f' := ((if (nI 10) ≤ (nI 10) then 48 else 28), [.ref 1, .int v, .int (nI 10)], [], MW (upA (upA A 2 (cleared A 2 3).1) 3 (cleared A 2 3).2) B (upF (upF (upF F 0 v) 1 (nI 0)) 2 ((F 2) + (nI 1))) sw, 0, 0)) 3 rfl ?_
    refine wp_ite (fun _ => ?_) (fun h9 => absurd (nI_le (Nat.le_refl _) (by omega)) h9)
    exact wp_vret rfl
theorem ev_gLink (hC : CI A F n nb) {ed : Nat} (hE : F 1 = nI ed) {a b : Nat} (ha : a < n) (hb : b < n) (hab : a ≠ b) : mv_Ev xs Ls 1 11 [.ref 1, .int (nI a), .int (nI b)] (MW A B F sw) (none, MW (upA A 2 (upd (upd (A 2) a (nI (nb a ||| 2 ^ b))) b (nI (nb b ||| 2 ^ a)))) B (upF (upF F 1 (nI (ed + 1))) 2 (F 2 + nI 1)) sw, 0, 0) := by
  refine ev_of_wp rfl rfl rfl ?_
  have hn := hC.1
  have hna := hC.2.2.2 a (by omega)
  have hnb2 := hC.2.2.2 b (by omega)
  refine wp_go (f' := (6, [.ref 1, .int (nI a), .int (nI b)], [.int (nI a), .ref 2, .int (nI a), .ref 2], MW A B F sw, 0, 0)) 4 rfl ?_
  refine wp_iald rfl rfl (by omega) (by decide) ?_
  rw [hC.2.2.1 a (by omega)]
  have hnb := hC.2.2.2 a (by omega)
  refine wp_go (f' := (10, [.ref 1, .int (nI a), .int (nI b)], [.int ((nI 1) <<< ((nI b) &&& 31)), .int (nI (nb a)), .int (nI a), .ref 2], MW A B F sw, 0, 0)) 3 rfl ?_
  rw [bx_one (by omega)]
  have hb1 : 2 ^ b < 1024 := by first | omega | exact or_lt (by omega) (by omega) | exact and_lt (by omega) | exact and_lt_r (by omega) | exact sd_lt (by omega) | exact pow_lt (by omega)
  refine wp_go (f' := (11, [.ref 1, .int (nI a), .int (nI b)], [.int ((nI (nb a)) ||| (nI (2 ^ b))), .int (nI a), .ref 2], MW A B F sw, 0, 0)) 1 rfl ?_
  rw [bx_or]
  have hb2 : (nb a) ||| (2 ^ b) < 1024 := by first | omega | exact or_lt (by omega) (by omega) | exact and_lt (by omega) | exact and_lt_r (by omega) | exact sd_lt (by omega) | exact pow_lt (by omega)
  refine wp_iast rfl rfl (by omega) (by decide) ?_
  refine wp_eq (f' := (12, [.ref 1, .int (nI a), .int (nI b)], [], MW (upA A 2 (upd (A 2) a (nI ((nb a) ||| (2 ^ b))))) B F sw, 0, 0)) rfl ?_
  refine wp_go (f' := (18, [.ref 1, .int (nI a), .int (nI b)], [.int (nI b), .ref 2, .int (nI b), .ref 2], MW (upA A 2 (upd (A 2) a (nI ((nb a) ||| (2 ^ b))))) B F sw, 0, 0)) 4 rfl ?_
  refine wp_iald rfl rfl (by omega) (by decide) ?_
  refine wp_eq (f' := (19, [.ref 1, .int (nI a), .int (nI b)], [.int ((upd (A 2) a (nI ((nb a) ||| (2 ^ b)))) b), .int (nI b), .ref 2], MW (upA A 2 (upd (A 2) a (nI ((nb a) ||| (2 ^ b))))) B F sw, 0, 0)) rfl ?_
  rw [pk_un (fun h8 => hab h8.symm), hC.2.2.1 b (by omega)]
  refine wp_go (f' := (22, [.ref 1, .int (nI a), .int (nI b)], [.int ((nI 1) <<< ((nI a) &&& 31)), .int (nI (nb b)), .int (nI b), .ref 2], MW (upA A 2 (upd (A 2) a (nI ((nb a) ||| (2 ^ b))))) B F sw, 0, 0)) 3 rfl ?_
  rw [bx_one (by omega)]
  have hb3 : 2 ^ a < 1024 := by first | omega | exact or_lt (by omega) (by omega) | exact and_lt (by omega) | exact and_lt_r (by omega) | exact sd_lt (by omega) | exact pow_lt (by omega)
  refine wp_go (f' := (23, [.ref 1, .int (nI a), .int (nI b)], [.int ((nI (nb b)) ||| (nI (2 ^ a))), .int (nI b), .ref 2], MW (upA A 2 (upd (A 2) a (nI ((nb a) ||| (2 ^ b))))) B F sw, 0, 0)) 1 rfl ?_
  rw [bx_or]
  have hb4 : (nb b) ||| (2 ^ a) < 1024 := by first | omega | exact or_lt (by omega) (by omega) | exact and_lt (by omega) | exact and_lt_r (by omega) | exact sd_lt (by omega) | exact pow_lt (by omega)
  refine wp_iast rfl rfl (by omega) (by decide) ?_
  refine wp_eq (f' := (24, [.ref 1, .int (nI a), .int (nI b)], [], MW (upA A 2 (upd (upd (A 2) a (nI ((nb a) ||| (2 ^ b)))) b (nI ((nb b) ||| (2 ^ a))))) B F sw, 0, 0)) rfl ?_
  refine wp_go (f' := (29, [.ref 1, .int (nI a), .int (nI b)], [.int (F 1), .ref 1], MW (upA A 2 (upd (upd (A 2) a (nI ((nb a) ||| (2 ^ b)))) b (nI ((nb b) ||| (2 ^ a))))) B F sw, 0, 0)) 3 rfl ?_
  rw [hE]
  refine wp_go (f' := (31, [.ref 1, .int (nI a), .int (nI b)], [.int ((nI ed) + (nI 1)), .ref 1], MW (upA A 2 (upd (upd (A 2) a (nI ((nb a) ||| (2 ^ b)))) b (nI ((nb b) ||| (2 ^ a))))) B F sw, 0, 0)) 2 rfl ?_
  rw [nI_add]
  refine wp_go (f' := (44, [.ref 1, .int (nI a), .int (nI b)], [], MW (upA A 2 (upd (upd (A 2) a (nI ((nb a) ||| (2 ^ b)))) b (nI ((nb b) ||| (2 ^ a))))) B (upF (upF F 1 (nI (ed + 1))) 2 ((F 2) + (nI 1))) sw, 0, 0)) 7 rfl ?_
  exact wp_vret rfl
theorem ev_gUnlink (hC : CI A F n nb) {ed : Nat} (hE : F 1 = nI ed) {a b : Nat} (ha : a < n) (hb : b < n) (hab : a ≠ b) (h1 : 1 ≤ ed) : mv_Ev xs Ls 1 13 [.ref 1, .int (nI a), .int (nI b)] (MW A B F sw) (none, MW (upA A 2 (upd (upd (A 2) a (nI (sd (nb a) (2 ^ b)))) b (nI (sd (nb b) (2 ^ a))))) B (upF (upF F 1 (nI (ed - 1))) 2 (F 2 + nI 1)) sw, 0, 0) := by
  refine ev_of_wp rfl rfl rfl ?_
  have hn := hC.1
  have hna := hC.2.2.2 a (by omega)
  have hnb2 := hC.2.2.2 b (by omega)
  refine wp_go (f' := (6, [.ref 1, .int (nI a), .int (nI b)], [.int (nI a), .ref 2, .int (nI a), .ref 2], MW A B F sw, 0, 0)) 4 rfl ?_
  refine wp_iald rfl rfl (by omega) (by decide) ?_
  rw [hC.2.2.1 a (by omega)]
  have hnb := hC.2.2.2 a (by omega)
  refine wp_go (f' := (10, [.ref 1, .int (nI a), .int (nI b)], [.int ((nI 1) <<< ((nI b) &&& 31)), .int (nI (nb a)), .int (nI a), .ref 2], MW A B F sw, 0, 0)) 3 rfl ?_
  rw [bx_one (by omega)]
  have hb1 : 2 ^ b < 1024 := by first | omega | exact or_lt (by omega) (by omega) | exact and_lt (by omega) | exact and_lt_r (by omega) | exact sd_lt (by omega) | exact pow_lt (by omega)
  refine wp_go (f' := (13, [.ref 1, .int (nI a), .int (nI b)], [.int ((nI (nb a)) &&& ((nI (2 ^ b)) ^^^ (-1))), .int (nI a), .ref 2], MW A B F sw, 0, 0)) 3 rfl ?_
  rw [bx_sd (by omega)]
  have hb2 : sd (nb a) (2 ^ b) < 1024 := by first | omega | exact or_lt (by omega) (by omega) | exact and_lt (by omega) | exact and_lt_r (by omega) | exact sd_lt (by omega) | exact pow_lt (by omega)
  refine wp_iast rfl rfl (by omega) (by decide) ?_
  refine wp_eq (f' := (14, [.ref 1, .int (nI a), .int (nI b)], [], MW (upA A 2 (upd (A 2) a (nI (sd (nb a) (2 ^ b))))) B F sw, 0, 0)) rfl ?_
  refine wp_go (f' := (20, [.ref 1, .int (nI a), .int (nI b)], [.int (nI b), .ref 2, .int (nI b), .ref 2], MW (upA A 2 (upd (A 2) a (nI (sd (nb a) (2 ^ b))))) B F sw, 0, 0)) 4 rfl ?_
  refine wp_iald rfl rfl (by omega) (by decide) ?_
  refine wp_eq (f' := (21, [.ref 1, .int (nI a), .int (nI b)], [.int ((upd (A 2) a (nI (sd (nb a) (2 ^ b)))) b), .int (nI b), .ref 2], MW (upA A 2 (upd (A 2) a (nI (sd (nb a) (2 ^ b))))) B F sw, 0, 0)) rfl ?_
  rw [pk_un (fun h8 => hab h8.symm), hC.2.2.1 b (by omega)]
  refine wp_go (f' := (24, [.ref 1, .int (nI a), .int (nI b)], [.int ((nI 1) <<< ((nI a) &&& 31)), .int (nI (nb b)), .int (nI b), .ref 2], MW (upA A 2 (upd (A 2) a (nI (sd (nb a) (2 ^ b))))) B F sw, 0, 0)) 3 rfl ?_
  rw [bx_one (by omega)]
  have hb3 : 2 ^ a < 1024 := by first | omega | exact or_lt (by omega) (by omega) | exact and_lt (by omega) | exact and_lt_r (by omega) | exact sd_lt (by omega) | exact pow_lt (by omega)
  refine wp_go (f' := (27, [.ref 1, .int (nI a), .int (nI b)], [.int ((nI (nb b)) &&& ((nI (2 ^ a)) ^^^ (-1))), .int (nI b), .ref 2], MW (upA A 2 (upd (A 2) a (nI (sd (nb a) (2 ^ b))))) B F sw, 0, 0)) 3 rfl ?_
  rw [bx_sd (by omega)]
  have hb4 : sd (nb b) (2 ^ a) < 1024 := by first | omega | exact or_lt (by omega) (by omega) | exact and_lt (by omega) | exact and_lt_r (by omega) | exact sd_lt (by omega) | exact pow_lt (by omega)
  refine wp_iast rfl rfl (by omega) (by decide) ?_
  refine wp_eq (f' := (28, [.ref 1, .int (nI a), .int (nI b)], [], MW (upA A 2 (upd (upd (A 2) a (nI (sd (nb a) (2 ^ b)))) b (nI (sd (nb b) (2 ^ a))))) B F sw, 0, 0)) rfl ?_
  refine wp_go (f' := (33, [.ref 1, .int (nI a), .int (nI b)], [.int (F 1), .ref 1], MW (upA A 2 (upd (upd (A 2) a (nI (sd (nb a) (2 ^ b)))) b (nI (sd (nb b) (2 ^ a))))) B F sw, 0, 0)) 3 rfl ?_
  rw [hE]
  refine wp_go (f' := (35, [.ref 1, .int (nI a), .int (nI b)], [.int ((nI ed) - (nI 1)), .ref 1], MW (upA A 2 (upd (upd (A 2) a (nI (sd (nb a) (2 ^ b)))) b (nI (sd (nb b) (2 ^ a))))) B F sw, 0, 0)) 2 rfl ?_
  rw [pk_sub (by omega)]
  refine wp_go (f' := (48, [.ref 1, .int (nI a), .int (nI b)], [], MW (upA A 2 (upd (upd (A 2) a (nI (sd (nb a) (2 ^ b)))) b (nI (sd (nb b) (2 ^ a))))) B (upF (upF F 1 (nI (ed - 1))) 2 ((F 2) + (nI 1))) sw, 0, 0)) 7 rfl ?_
  exact wp_vret rfl
theorem ev_hasT (hC : CI A F n nb) {a : Nat} (ha : a < n) : mv_Ev xs Ls 1 9 [.ref 1, .int (nI a)] (MW A B F sw) (some (.int (nI 1)), MW A B F sw, 0, 0) := by
  have h := ev_gHas (xs := xs) (Ls := Ls) (B := B) (sw := sw) hC (nI a)
  rw [isV_t hC.1 ha] at h
  exact h
theorem ev_hasF (hC : CI A F n nb) {v : Int32} (hv : isV v n = false) : mv_Ev xs Ls 1 9 [.ref 1, .int v] (MW A B F sw) (some (.int (nI 0)), MW A B F sw, 0, 0) := by
  have h := ev_gHas (xs := xs) (Ls := Ls) (B := B) (sw := sw) hC v
  rw [hv] at h
  exact h
theorem ev_bNear_f (hC : CI A F n nb) {v : Int32} (hv : isV v n = false) : mv_Ev xs Ls 2 29 [.ref 0, .int v] (MW A B F sw) (some (.int (-2)), MW A B F sw, 0, 0) := by
  refine ev_of_wp rfl rfl rfl ?_
  have hn := hC.1
  have hp := pow10 hn
  have hp1 : 1 ≤ 2 ^ n := Nat.one_le_two_pow
  have hal := all_lt hn
  refine wp_go (f' := (5, [.ref 0, .int v], [.int v, .ref 1], MW A B F sw, 0, 0)) 3 rfl ?_
  refine wp_call rfl rfl rfl (ev_up (ev_hasF hC hv) (by decide)) ?_
  refine wp_eq (f' := (8, [.ref 0, .int v], [.int (nI 0)], MW A B F sw, 0, 0)) rfl ?_
  refine wp_go (f' := ((if (nI 0) = 0 then 23 else 11), [.ref 0, .int v], [], MW A B F sw, 0, 0)) 1 rfl ?_
  refine wp_ite (fun _ => ?_) (fun h9 => absurd (rfl : nI 0 = 0) h9)
  refine wp_go (f' := (25, [.ref 0, .int v], [.int (-2)], MW A B F sw, 0, 0)) 1 rfl ?_
  exact wp_iret rfl
theorem ev_bNear_t (hC : CI A F n nb) {a : Nat} (ha : a < n) : mv_Ev xs Ls 2 29 [.ref 0, .int (nI a)] (MW A B F sw) (some (.int (nI (nb a))), MW A B F sw, 0, 0) := by
  refine ev_of_wp rfl rfl rfl ?_
  have hn := hC.1
  have hp := pow10 hn
  have hp1 : 1 ≤ 2 ^ n := Nat.one_le_two_pow
  have hal := all_lt hn
  refine wp_go (f' := (5, [.ref 0, .int (nI a)], [.int (nI a), .ref 1], MW A B F sw, 0, 0)) 3 rfl ?_
  refine wp_call rfl rfl rfl (ev_up (ev_hasT hC (a := a) (by omega)) (by decide)) ?_
  refine wp_eq (f' := (8, [.ref 0, .int (nI a)], [.int (nI 1)], MW A B F sw, 0, 0)) rfl ?_
  refine wp_go (f' := ((if (nI 1) = 0 then 23 else 11), [.ref 0, .int (nI a)], [], MW A B F sw, 0, 0)) 1 rfl ?_
  refine wp_ite (fun h9 => absurd h9 (by decide : ¬ nI 1 = 0)) (fun _ => ?_)
  refine wp_go (f' := (19, [.ref 0, .int (nI a)], [.int (nI a), .ref 2], MW A B F sw, 0, 0)) 4 rfl ?_
  refine wp_iald rfl rfl (by omega) (by decide) ?_
  rw [hC.2.2.1 a (by omega)]
  have hnb := hC.2.2.2 a (by omega)
  refine wp_go (f' := (25, [.ref 0, .int (nI a)], [.int (nI (nb a))], MW A B F sw, 0, 0)) 1 rfl ?_
  exact wp_iret rfl
theorem ev_bJoin_f1 (hC : CI A F n nb) {v u : Int32} (hv : isV v n = false) : mv_Ev xs Ls 2 8 [.ref 0, .int v, .int u] (MW A B F sw) (some (.int (-2)), MW A B F sw, 0, 0) := by
  refine ev_of_wp rfl rfl rfl ?_
  have hn := hC.1
  have hp := pow10 hn
  have hp1 : 1 ≤ 2 ^ n := Nat.one_le_two_pow
  have hal := all_lt hn
  refine wp_go (f' := (5, [.ref 0, .int v, .int u], [.int v, .ref 1], MW A B F sw, 0, 0)) 3 rfl ?_
  refine wp_call rfl rfl rfl (ev_up (ev_hasF hC hv) (by decide)) ?_
  refine wp_eq (f' := (8, [.ref 0, .int v, .int u], [.int (nI 0)], MW A B F sw, 0, 0)) rfl ?_
  refine wp_go (f' := ((if (nI 0) = 0 then 27 else 11), [.ref 0, .int v, .int u], [], MW A B F sw, 0, 0)) 1 rfl ?_
  refine wp_ite (fun _ => ?_) (fun h9 => absurd (rfl : nI 0 = 0) h9)
  refine wp_go (f' := (29, [.ref 0, .int v, .int u], [.int (-2)], MW A B F sw, 0, 0)) 1 rfl ?_
  exact wp_iret rfl
theorem ev_bJoin_f2 (hC : CI A F n nb) {a : Nat} {u : Int32} (ha : a < n) (hu : isV u n = false) : mv_Ev xs Ls 2 8 [.ref 0, .int (nI a), .int u] (MW A B F sw) (some (.int (-2)), MW A B F sw, 0, 0) := by
  refine ev_of_wp rfl rfl rfl ?_
  have hn := hC.1
  have hp := pow10 hn
  have hp1 : 1 ≤ 2 ^ n := Nat.one_le_two_pow
  have hal := all_lt hn
  refine wp_go (f' := (5, [.ref 0, .int (nI a), .int u], [.int (nI a), .ref 1], MW A B F sw, 0, 0)) 3 rfl ?_
  refine wp_call rfl rfl rfl (ev_up (ev_hasT hC (a := a) (by omega)) (by decide)) ?_
  refine wp_eq (f' := (8, [.ref 0, .int (nI a), .int u], [.int (nI 1)], MW A B F sw, 0, 0)) rfl ?_
  refine wp_go (f' := ((if (nI 1) = 0 then 27 else 11), [.ref 0, .int (nI a), .int u], [], MW A B F sw, 0, 0)) 1 rfl ?_
  refine wp_ite (fun h9 => absurd h9 (by decide : ¬ nI 1 = 0)) (fun _ => ?_)
  refine wp_go (f' := (16, [.ref 0, .int (nI a), .int u], [.int u, .ref 1], MW A B F sw, 0, 0)) 3 rfl ?_
  refine wp_call rfl rfl rfl (ev_up (ev_hasF hC hu) (by decide)) ?_
  refine wp_eq (f' := (19, [.ref 0, .int (nI a), .int u], [.int (nI 0)], MW A B F sw, 0, 0)) rfl ?_
  refine wp_go (f' := ((if (nI 0) = 0 then 27 else 22), [.ref 0, .int (nI a), .int u], [], MW A B F sw, 0, 0)) 1 rfl ?_
  refine wp_ite (fun _ => ?_) (fun h9 => absurd (rfl : nI 0 = 0) h9)
  refine wp_go (f' := (29, [.ref 0, .int (nI a), .int u], [.int (-2)], MW A B F sw, 0, 0)) 1 rfl ?_
  exact wp_iret rfl
theorem ev_bJoin_f3 (hC : CI A F n nb) {a : Nat} (ha : a < n) : mv_Ev xs Ls 2 8 [.ref 0, .int (nI a), .int (nI a)] (MW A B F sw) (some (.int (-2)), MW A B F sw, 0, 0) := by
  refine ev_of_wp rfl rfl rfl ?_
  have hn := hC.1
  have hp := pow10 hn
  have hp1 : 1 ≤ 2 ^ n := Nat.one_le_two_pow
  have hal := all_lt hn
  refine wp_go (f' := (5, [.ref 0, .int (nI a), .int (nI a)], [.int (nI a), .ref 1], MW A B F sw, 0, 0)) 3 rfl ?_
  refine wp_call rfl rfl rfl (ev_up (ev_hasT hC (a := a) (by omega)) (by decide)) ?_
  refine wp_eq (f' := (8, [.ref 0, .int (nI a), .int (nI a)], [.int (nI 1)], MW A B F sw, 0, 0)) rfl ?_
  refine wp_go (f' := ((if (nI 1) = 0 then 27 else 11), [.ref 0, .int (nI a), .int (nI a)], [], MW A B F sw, 0, 0)) 1 rfl ?_
  refine wp_ite (fun h9 => absurd h9 (by decide : ¬ nI 1 = 0)) (fun _ => ?_)
  refine wp_go (f' := (16, [.ref 0, .int (nI a), .int (nI a)], [.int (nI a), .ref 1], MW A B F sw, 0, 0)) 3 rfl ?_
  refine wp_call rfl rfl rfl (ev_up (ev_hasT hC (a := a) (by omega)) (by decide)) ?_
  refine wp_eq (f' := (19, [.ref 0, .int (nI a), .int (nI a)], [.int (nI 1)], MW A B F sw, 0, 0)) rfl ?_
  refine wp_go (f' := ((if (nI 1) = 0 then 27 else 22), [.ref 0, .int (nI a), .int (nI a)], [], MW A B F sw, 0, 0)) 1 rfl ?_
  refine wp_ite (fun h9 => absurd h9 (by decide : ¬ nI 1 = 0)) (fun _ => ?_)
  refine wp_go (f' := ((if ¬ (nI a) = (nI a) then 30 else 27), [.ref 0, .int (nI a), .int (nI a)], [], MW A B F sw, 0, 0)) 3 rfl ?_
  refine wp_ite (fun h9 => absurd h9 (fun h8 => h8 rfl : ¬ ¬ nI a = nI a)) (fun _ => ?_)
  refine wp_go (f' := (29, [.ref 0, .int (nI a), .int (nI a)], [.int (-2)], MW A B F sw, 0, 0)) 1 rfl ?_
  exact wp_iret rfl
theorem ev_bJoin_there (hC : CI A F n nb) {ed : Nat} (hE : F 1 = nI ed) (hed : ed ≤ 20) {a b : Nat} (ha : a < n) (hb : b < n) (hab : a ≠ b) (hx : (nb a).testBit b = true) : mv_Ev xs Ls 2 8 [.ref 0, .int (nI a), .int (nI b)] (MW A B F sw) (some (.int (-4)), MW A B F sw, 0, 0) := by
  refine ev_of_wp rfl rfl rfl ?_
  have hn := hC.1
  have hp := pow10 hn
  have hp1 : 1 ≤ 2 ^ n := Nat.one_le_two_pow
  have hal := all_lt hn
  refine wp_go (f' := (5, [.ref 0, .int (nI a), .int (nI b)], [.int (nI a), .ref 1], MW A B F sw, 0, 0)) 3 rfl ?_
  refine wp_call rfl rfl rfl (ev_up (ev_hasT hC (a := a) (by omega)) (by decide)) ?_
  refine wp_eq (f' := (8, [.ref 0, .int (nI a), .int (nI b)], [.int (nI 1)], MW A B F sw, 0, 0)) rfl ?_
  refine wp_go (f' := ((if (nI 1) = 0 then 27 else 11), [.ref 0, .int (nI a), .int (nI b)], [], MW A B F sw, 0, 0)) 1 rfl ?_
  refine wp_ite (fun h9 => absurd h9 (by decide : ¬ nI 1 = 0)) (fun _ => ?_)
  refine wp_go (f' := (16, [.ref 0, .int (nI a), .int (nI b)], [.int (nI b), .ref 1], MW A B F sw, 0, 0)) 3 rfl ?_
  refine wp_call rfl rfl rfl (ev_up (ev_hasT hC (a := b) (by omega)) (by decide)) ?_
  refine wp_eq (f' := (19, [.ref 0, .int (nI a), .int (nI b)], [.int (nI 1)], MW A B F sw, 0, 0)) rfl ?_
  refine wp_go (f' := ((if (nI 1) = 0 then 27 else 22), [.ref 0, .int (nI a), .int (nI b)], [], MW A B F sw, 0, 0)) 1 rfl ?_
  refine wp_ite (fun h9 => absurd h9 (by decide : ¬ nI 1 = 0)) (fun _ => ?_)
  refine wp_go (f' := ((if ¬ (nI a) = (nI b) then 30 else 27), [.ref 0, .int (nI a), .int (nI b)], [], MW A B F sw, 0, 0)) 3 rfl ?_
  refine wp_ite (fun _ => ?_) (fun h9 => absurd (fun h8 => hab ((nI_eq (a := a) (b := b) (by omega) (by omega)).mp h8)) h9)
  refine wp_go (f' := (36, [.ref 0, .int (nI a), .int (nI b)], [.int (nI b), .int (nI a), .ref 1], MW A B F sw, 0, 0)) 4 rfl ?_
  refine wp_call rfl rfl rfl (ev_up (ev_gLinked hC (a := a) (b := b) (by omega) (by omega)) (by decide)) ?_
  refine wp_eq (f' := (39, [.ref 0, .int (nI a), .int (nI b)], [.int (bI ((nb a).testBit b))], MW A B F sw, 0, 0)) rfl ?_
  refine wp_go (f' := ((if (bI ((nb a).testBit b)) = 0 then 45 else 42), [.ref 0, .int (nI a), .int (nI b)], [], MW A B F sw, 0, 0)) 1 rfl ?_
  refine wp_ite (fun h9 => absurd h9 (by rw [bI_t hx]; decide)) (fun _ => ?_)
  refine wp_go (f' := (44, [.ref 0, .int (nI a), .int (nI b)], [.int (-4)], MW A B F sw, 0, 0)) 1 rfl ?_
  exact wp_iret rfl
theorem ev_bJoin_full (hC : CI A F n nb) {ed : Nat} (hE : F 1 = nI ed) (hed : ed ≤ 20) {a b : Nat} (ha : a < n) (hb : b < n) (hab : a ≠ b) (hx : (nb a).testBit b = false) (h20 : ed = 20) : mv_Ev xs Ls 2 8 [.ref 0, .int (nI a), .int (nI b)] (MW A B F sw) (some (.int (-3)), MW A B F sw, 0, 0) := by
  refine ev_of_wp rfl rfl rfl ?_
  have hn := hC.1
  have hp := pow10 hn
  have hp1 : 1 ≤ 2 ^ n := Nat.one_le_two_pow
  have hal := all_lt hn
  refine wp_go (f' := (5, [.ref 0, .int (nI a), .int (nI b)], [.int (nI a), .ref 1], MW A B F sw, 0, 0)) 3 rfl ?_
  refine wp_call rfl rfl rfl (ev_up (ev_hasT hC (a := a) (by omega)) (by decide)) ?_
  refine wp_eq (f' := (8, [.ref 0, .int (nI a), .int (nI b)], [.int (nI 1)], MW A B F sw, 0, 0)) rfl ?_
  refine wp_go (f' := ((if (nI 1) = 0 then 27 else 11), [.ref 0, .int (nI a), .int (nI b)], [], MW A B F sw, 0, 0)) 1 rfl ?_
  refine wp_ite (fun h9 => absurd h9 (by decide : ¬ nI 1 = 0)) (fun _ => ?_)
  refine wp_go (f' := (16, [.ref 0, .int (nI a), .int (nI b)], [.int (nI b), .ref 1], MW A B F sw, 0, 0)) 3 rfl ?_
  refine wp_call rfl rfl rfl (ev_up (ev_hasT hC (a := b) (by omega)) (by decide)) ?_
  refine wp_eq (f' := (19, [.ref 0, .int (nI a), .int (nI b)], [.int (nI 1)], MW A B F sw, 0, 0)) rfl ?_
  refine wp_go (f' := ((if (nI 1) = 0 then 27 else 22), [.ref 0, .int (nI a), .int (nI b)], [], MW A B F sw, 0, 0)) 1 rfl ?_
  refine wp_ite (fun h9 => absurd h9 (by decide : ¬ nI 1 = 0)) (fun _ => ?_)
  refine wp_go (f' := ((if ¬ (nI a) = (nI b) then 30 else 27), [.ref 0, .int (nI a), .int (nI b)], [], MW A B F sw, 0, 0)) 3 rfl ?_
  refine wp_ite (fun _ => ?_) (fun h9 => absurd (fun h8 => hab ((nI_eq (a := a) (b := b) (by omega) (by omega)).mp h8)) h9)
  refine wp_go (f' := (36, [.ref 0, .int (nI a), .int (nI b)], [.int (nI b), .int (nI a), .ref 1], MW A B F sw, 0, 0)) 4 rfl ?_
  refine wp_call rfl rfl rfl (ev_up (ev_gLinked hC (a := a) (b := b) (by omega) (by omega)) (by decide)) ?_
  refine wp_eq (f' := (39, [.ref 0, .int (nI a), .int (nI b)], [.int (bI ((nb a).testBit b))], MW A B F sw, 0, 0)) rfl ?_
  refine wp_go (f' := ((if (bI ((nb a).testBit b)) = 0 then 45 else 42), [.ref 0, .int (nI a), .int (nI b)], [], MW A B F sw, 0, 0)) 1 rfl ?_
  refine wp_ite (fun _ => ?_) (fun h9 => absurd (bI_f hx) h9)
  refine wp_go (f' := (52, [.ref 0, .int (nI a), .int (nI b)], [.int (F 1)], MW A B F sw, 0, 0)) 3 rfl ?_
  rw [hE]
  refine wp_go (f' := ((if (nI ed) < (nI 20) then 60 else 57), [.ref 0, .int (nI a), .int (nI b)], [], MW A B F sw, 0, 0)) 2 rfl ?_
  refine wp_ite (fun h9 => absurd h9 (nI_nlt (by omega) (by omega))) (fun _ => ?_)
  refine wp_go (f' := (59, [.ref 0, .int (nI a), .int (nI b)], [.int (-3)], MW A B F sw, 0, 0)) 1 rfl ?_
  exact wp_iret rfl
theorem ev_bJoin_ok (hC : CI A F n nb) {ed : Nat} (hE : F 1 = nI ed) (hed : ed ≤ 20) {a b : Nat} (ha : a < n) (hb : b < n) (hab : a ≠ b) (hx : (nb a).testBit b = false) (h20 : ed ≠ 20) : mv_Ev xs Ls 2 8 [.ref 0, .int (nI a), .int (nI b)] (MW A B F sw) (some (.int (nI (ed + 1))), MW (upA A 2 (upd (upd (A 2) a (nI (nb a ||| 2 ^ b))) b (nI (nb b ||| 2 ^ a)))) B (upF (upF F 1 (nI (ed + 1))) 2 (F 2 + nI 1)) sw, 0, 0) := by
  refine ev_of_wp rfl rfl rfl ?_
  have hn := hC.1
  have hp := pow10 hn
  have hp1 : 1 ≤ 2 ^ n := Nat.one_le_two_pow
  have hal := all_lt hn
  refine wp_go (f' := (5, [.ref 0, .int (nI a), .int (nI b)], [.int (nI a), .ref 1], MW A B F sw, 0, 0)) 3 rfl ?_
  refine wp_call rfl rfl rfl (ev_up (ev_hasT hC (a := a) (by omega)) (by decide)) ?_
  refine wp_eq (f' := (8, [.ref 0, .int (nI a), .int (nI b)], [.int (nI 1)], MW A B F sw, 0, 0)) rfl ?_
  refine wp_go (f' := ((if (nI 1) = 0 then 27 else 11), [.ref 0, .int (nI a), .int (nI b)], [], MW A B F sw, 0, 0)) 1 rfl ?_
  refine wp_ite (fun h9 => absurd h9 (by decide : ¬ nI 1 = 0)) (fun _ => ?_)
  refine wp_go (f' := (16, [.ref 0, .int (nI a), .int (nI b)], [.int (nI b), .ref 1], MW A B F sw, 0, 0)) 3 rfl ?_
  refine wp_call rfl rfl rfl (ev_up (ev_hasT hC (a := b) (by omega)) (by decide)) ?_
  refine wp_eq (f' := (19, [.ref 0, .int (nI a), .int (nI b)], [.int (nI 1)], MW A B F sw, 0, 0)) rfl ?_
  refine wp_go (f' := ((if (nI 1) = 0 then 27 else 22), [.ref 0, .int (nI a), .int (nI b)], [], MW A B F sw, 0, 0)) 1 rfl ?_
  refine wp_ite (fun h9 => absurd h9 (by decide : ¬ nI 1 = 0)) (fun _ => ?_)
  refine wp_go (f' := ((if ¬ (nI a) = (nI b) then 30 else 27), [.ref 0, .int (nI a), .int (nI b)], [], MW A B F sw, 0, 0)) 3 rfl ?_
  refine wp_ite (fun _ => ?_) (fun h9 => absurd (fun h8 => hab ((nI_eq (a := a) (b := b) (by omega) (by omega)).mp h8)) h9)
  refine wp_go (f' := (36, [.ref 0, .int (nI a), .int (nI b)], [.int (nI b), .int (nI a), .ref 1], MW A B F sw, 0, 0)) 4 rfl ?_
  refine wp_call rfl rfl rfl (ev_up (ev_gLinked hC (a := a) (b := b) (by omega) (by omega)) (by decide)) ?_
  refine wp_eq (f' := (39, [.ref 0, .int (nI a), .int (nI b)], [.int (bI ((nb a).testBit b))], MW A B F sw, 0, 0)) rfl ?_
  refine wp_go (f' := ((if (bI ((nb a).testBit b)) = 0 then 45 else 42), [.ref 0, .int (nI a), .int (nI b)], [], MW A B F sw, 0, 0)) 1 rfl ?_
  refine wp_ite (fun _ => ?_) (fun h9 => absurd (bI_f hx) h9)
  refine wp_go (f' := (52, [.ref 0, .int (nI a), .int (nI b)], [.int (F 1)], MW A B F sw, 0, 0)) 3 rfl ?_
  rw [hE]
  refine wp_go (f' := ((if (nI ed) < (nI 20) then 60 else 57), [.ref 0, .int (nI a), .int (nI b)], [], MW A B F sw, 0, 0)) 2 rfl ?_
  refine wp_ite (fun _ => ?_) (fun h9 => absurd (nI_lt (by omega) (by omega)) h9)
  refine wp_go (f' := (66, [.ref 0, .int (nI a), .int (nI b)], [.int (nI b), .int (nI a), .ref 1], MW A B F sw, 0, 0)) 4 rfl ?_
  refine wp_call rfl rfl rfl (ev_up (ev_gLink hC hE ha hb hab) (by decide)) ?_
  refine wp_eq (f' := (69, [.ref 0, .int (nI a), .int (nI b)], [], MW (upA A 2 (upd (upd (A 2) a (nI (nb a ||| 2 ^ b))) b (nI (nb b ||| 2 ^ a)))) B (upF (upF F 1 (nI (ed + 1))) 2 (F 2 + nI 1)) sw, 0, 0)) rfl ?_
  refine wp_go (f' := (76, [.ref 0, .int (nI a), .int (nI b)], [.int (nI (ed + 1))], MW (upA A 2 (upd (upd (A 2) a (nI (nb a ||| 2 ^ b))) b (nI (nb b ||| 2 ^ a)))) B (upF (upF F 1 (nI (ed + 1))) 2 (F 2 + nI 1)) sw, 0, 0)) 3 rfl ?_
  exact wp_iret rfl
end CC
