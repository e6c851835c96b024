theorem nI_ite {a b c d : Nat} (ha : a < 2 ^ 31) (hb : b < 2 ^ 31) : (if nI a < nI b then nI c else nI d) = nI (if a < b then c else d) := by
  by_cases h : a < b
  · rw [if_pos h, if_pos ((nI_ltI ha hb).mpr h)]
  · rw [if_neg h, if_neg (fun h9 => h ((nI_ltI ha hb).mp h9))]
/-- the class's test of a clique -/
def cclN (n : Nat) (nb : Nat → Nat) (s : Nat) : Bool := decide (¬ s = 0) && decide (forN (fun k c => if s.testBit k then c &&& (nb k ||| 2 ^ k) else c) n (2 ^ n - 1) = s)
/-- the class's test of a separator -/
def cspN (n : Nat) (nb : Nat → Nat) (s : Nat) : Bool := decide (2 ≤ pieN nb (fun t m => if rcN nb (pcN nb t) &&& s = s then m + 1 else m) (sd (2 ^ n - 1) s) 0)
section CC
variable {xs : Nat → Int32} {Ls : Nat} {A : Nat → Nat → Int32} {B : Nat → Nat → Int64} {F : Nat → Int32} {sw : Bool} {n : Nat} {nb : Nat → Nat}
theorem ev_bPart_f1 (hC : CI A F n nb) {v u : Int32} (hv : isV v n = false) : mv_Ev xs Ls 2 12 [.ref 0, .int v, .int u] (MW A B F sw) (some (.int (-2)), MW A B F sw, 0, 0) := by
  refine ev_of_wp rfl rfl rfl ?_
  have hn := hC.1
  have hp := pow10 hn
  have hp1 : 1 ≤ 2 ^ n := Nat.one_le_two_pow
  have hal := all_lt hn
  refine wp_go (f' := (5, [.ref 0, .int v, .int u], [.int v, .ref 1], MW A B F sw, 0, 0)) 3 rfl ?_
  refine wp_call rfl rfl rfl (ev_up (ev_hasF hC hv) (by decide)) ?_
  refine wp_eq (f' := (8, [.ref 0, .int v, .int u], [.int (nI 0)], MW A B F sw, 0, 0)) rfl ?_
  refine wp_go (f' := ((if (nI 0) = 0 then 22 else 11), [.ref 0, .int v, .int u], [], MW A B F sw, 0, 0)) 1 rfl ?_
  refine wp_ite (fun _ => ?_) (fun h9 => absurd (rfl : nI 0 = 0) h9)
  refine wp_go (f' := (24, [.ref 0, .int v, .int u], [.int (-2)], MW A B F sw, 0, 0)) 1 rfl ?_
  exact wp_iret rfl
theorem ev_bPart_f2 (hC : CI A F n nb) {a : Nat} {u : Int32} (ha : a < n) (hu : isV u n = false) : mv_Ev xs Ls 2 12 [.ref 0, .int (nI a), .int u] (MW A B F sw) (some (.int (-2)), MW A B F sw, 0, 0) := by
  refine ev_of_wp rfl rfl rfl ?_
  have hn := hC.1
  have hp := pow10 hn
  have hp1 : 1 ≤ 2 ^ n := Nat.one_le_two_pow
  have hal := all_lt hn
  refine wp_go (f' := (5, [.ref 0, .int (nI a), .int u], [.int (nI a), .ref 1], MW A B F sw, 0, 0)) 3 rfl ?_
  refine wp_call rfl rfl rfl (ev_up (ev_hasT hC (a := a) (by omega)) (by decide)) ?_
  refine wp_eq (f' := (8, [.ref 0, .int (nI a), .int u], [.int (nI 1)], MW A B F sw, 0, 0)) rfl ?_
  refine wp_go (f' := ((if (nI 1) = 0 then 22 else 11), [.ref 0, .int (nI a), .int u], [], MW A B F sw, 0, 0)) 1 rfl ?_
  refine wp_ite (fun h9 => absurd h9 (by decide : ¬ nI 1 = 0)) (fun _ => ?_)
  refine wp_go (f' := (16, [.ref 0, .int (nI a), .int u], [.int u, .ref 1], MW A B F sw, 0, 0)) 3 rfl ?_
  refine wp_call rfl rfl rfl (ev_up (ev_hasF hC hu) (by decide)) ?_
  refine wp_eq (f' := (19, [.ref 0, .int (nI a), .int u], [.int (nI 0)], MW A B F sw, 0, 0)) rfl ?_
  refine wp_go (f' := ((if ¬ (nI 0) = 0 then 25 else 22), [.ref 0, .int (nI a), .int u], [], MW A B F sw, 0, 0)) 1 rfl ?_
  refine wp_ite (fun h9 => absurd h9 (fun h8 => h8 rfl : ¬ ¬ nI 0 = 0)) (fun _ => ?_)
  refine wp_go (f' := (24, [.ref 0, .int (nI a), .int u], [.int (-2)], MW A B F sw, 0, 0)) 1 rfl ?_
  exact wp_iret rfl
theorem ev_bPart_none (hC : CI A F n nb) {a b : Nat} (ha : a < n) (hb : b < n) (hx : (nb a).testBit b = false) : mv_Ev xs Ls 2 12 [.ref 0, .int (nI a), .int (nI b)] (MW A B F sw) (some (.int (-1)), MW A B F sw, 0, 0) := by
  refine ev_of_wp rfl rfl rfl ?_
  have hn := hC.1
  have hp := pow10 hn
  have hp1 : 1 ≤ 2 ^ n := Nat.one_le_two_pow
  have hal := all_lt hn
  refine wp_go (f' := (5, [.ref 0, .int (nI a), .int (nI b)], [.int (nI a), .ref 1], MW A B F sw, 0, 0)) 3 rfl ?_
  refine wp_call rfl rfl rfl (ev_up (ev_hasT hC (a := a) (by omega)) (by decide)) ?_
  refine wp_eq (f' := (8, [.ref 0, .int (nI a), .int (nI b)], [.int (nI 1)], MW A B F sw, 0, 0)) rfl ?_
  refine wp_go (f' := ((if (nI 1) = 0 then 22 else 11), [.ref 0, .int (nI a), .int (nI b)], [], MW A B F sw, 0, 0)) 1 rfl ?_
  refine wp_ite (fun h9 => absurd h9 (by decide : ¬ nI 1 = 0)) (fun _ => ?_)
  refine wp_go (f' := (16, [.ref 0, .int (nI a), .int (nI b)], [.int (nI b), .ref 1], MW A B F sw, 0, 0)) 3 rfl ?_
  refine wp_call rfl rfl rfl (ev_up (ev_hasT hC (a := b) (by omega)) (by decide)) ?_
  refine wp_eq (f' := (19, [.ref 0, .int (nI a), .int (nI b)], [.int (nI 1)], MW A B F sw, 0, 0)) rfl ?_
  refine wp_go (f' := ((if ¬ (nI 1) = 0 then 25 else 22), [.ref 0, .int (nI a), .int (nI b)], [], MW A B F sw, 0, 0)) 1 rfl ?_
  refine wp_ite (fun _ => ?_) (fun h9 => absurd (by decide : ¬ nI 1 = 0) h9)
  refine wp_go (f' := (31, [.ref 0, .int (nI a), .int (nI b)], [.int (nI b), .int (nI a), .ref 1], MW A B F sw, 0, 0)) 4 rfl ?_
  refine wp_call rfl rfl rfl (ev_up (ev_gLinked hC (a := a) (b := b) (by omega) (by omega)) (by decide)) ?_
  refine wp_eq (f' := (34, [.ref 0, .int (nI a), .int (nI b)], [.int (bI ((nb a).testBit b))], MW A B F sw, 0, 0)) rfl ?_
  refine wp_go (f' := ((if ¬ (bI ((nb a).testBit b)) = 0 then 39 else 37), [.ref 0, .int (nI a), .int (nI b)], [], MW A B F sw, 0, 0)) 1 rfl ?_
  refine wp_ite (fun h9 => absurd h9 (fun h8 => h8 (bI_f hx))) (fun _ => ?_)
  refine wp_go (f' := (38, [.ref 0, .int (nI a), .int (nI b)], [.int (-1)], MW A B F sw, 0, 0)) 1 rfl ?_
  exact wp_iret rfl
theorem ev_bPart_ok (hC : CI A F n nb) {ed : Nat} (hE : F 1 = nI ed) (hed : ed ≤ 20) {a b : Nat} (ha : a < n) (hb : b < n) (hab : a ≠ b) (h1 : 1 ≤ ed) (hx : (nb a).testBit b = true) : mv_Ev xs Ls 2 12 [.ref 0, .int (nI a), .int (nI b)] (MW A B F sw) (some (.int (nI (ed - 1))), MW (upA A 2 (upd (upd (A 2) a (nI (sd (nb a) (2 ^ b)))) b (nI (sd (nb b) (2 ^ a))))) B (upF (upF F 1 (nI (ed - 1))) 2 (F 2 + nI 1)) sw, 0, 0) := by
  refine ev_of_wp rfl rfl rfl ?_
  have hn := hC.1
  have hp := pow10 hn
  have hp1 : 1 ≤ 2 ^ n := Nat.one_le_two_pow
  have hal := all_lt hn
  refine wp_go (f' := (5, [.ref 0, .int (nI a), .int (nI b)], [.int (nI a), .ref 1], MW A B F sw, 0, 0)) 3 rfl ?_
  refine wp_call rfl rfl rfl (ev_up (ev_hasT hC (a := a) (by omega)) (by decide)) ?_
  refine wp_eq (f' := (8, [.ref 0, .int (nI a), .int (nI b)], [.int (nI 1)], MW A B F sw, 0, 0)) rfl ?_
  refine wp_go (f' := ((if (nI 1) = 0 then 22 else 11), [.ref 0, .int (nI a), .int (nI b)], [], MW A B F sw, 0, 0)) 1 rfl ?_
  refine wp_ite (fun h9 => absurd h9 (by decide : ¬ nI 1 = 0)) (fun _ => ?_)
  refine wp_go (f' := (16, [.ref 0, .int (nI a), .int (nI b)], [.int (nI b), .ref 1], MW A B F sw, 0, 0)) 3 rfl ?_
  refine wp_call rfl rfl rfl (ev_up (ev_hasT hC (a := b) (by omega)) (by decide)) ?_
  refine wp_eq (f' := (19, [.ref 0, .int (nI a), .int (nI b)], [.int (nI 1)], MW A B F sw, 0, 0)) rfl ?_
  refine wp_go (f' := ((if ¬ (nI 1) = 0 then 25 else 22), [.ref 0, .int (nI a), .int (nI b)], [], MW A B F sw, 0, 0)) 1 rfl ?_
  refine wp_ite (fun _ => ?_) (fun h9 => absurd (by decide : ¬ nI 1 = 0) h9)
  refine wp_go (f' := (31, [.ref 0, .int (nI a), .int (nI b)], [.int (nI b), .int (nI a), .ref 1], MW A B F sw, 0, 0)) 4 rfl ?_
  refine wp_call rfl rfl rfl (ev_up (ev_gLinked hC (a := a) (b := b) (by omega) (by omega)) (by decide)) ?_
  refine wp_eq (f' := (34, [.ref 0, .int (nI a), .int (nI b)], [.int (bI ((nb a).testBit b))], MW A B F sw, 0, 0)) rfl ?_
  refine wp_go (f' := ((if ¬ (bI ((nb a).testBit b)) = 0 then 39 else 37), [.ref 0, .int (nI a), .int (nI b)], [], MW A B F sw, 0, 0)) 1 rfl ?_
  refine wp_ite (fun _ => ?_) (fun h9 => absurd (by rw [bI_t hx]; decide) h9)
  refine wp_go (f' := (45, [.ref 0, .int (nI a), .int (nI b)], [.int (nI b), .int (nI a), .ref 1], MW A B F sw, 0, 0)) 4 rfl ?_
  refine wp_call rfl rfl rfl (ev_up (ev_gUnlink hC hE ha hb hab h1) (by decide)) ?_
  refine wp_eq (f' := (48, [.ref 0, .int (nI a), .int (nI b)], [], MW (upA A 2 (upd (upd (A 2) a (nI (sd (nb a) (2 ^ b)))) b (nI (sd (nb b) (2 ^ a))))) B (upF (upF F 1 (nI (ed - 1))) 2 (F 2 + nI 1)) sw, 0, 0)) rfl ?_
  refine wp_go (f' := (55, [.ref 0, .int (nI a), .int (nI b)], [.int (nI (ed - 1))], MW (upA A 2 (upd (upd (A 2) a (nI (sd (nb a) (2 ^ b)))) b (nI (sd (nb b) (2 ^ a))))) B (upF (upF F 1 (nI (ed - 1))) 2 (F 2 + nI 1)) sw, 0, 0)) 3 rfl ?_
  exact wp_iret rfl
theorem ev_bWeigh_f1 (hC : CI A F n nb) {v x : Int32} (hv : isV v n = false) : mv_Ev xs Ls 2 14 [.ref 0, .int v, .int x] (MW A B F sw) (some (.int (-2)), MW A B F sw, 0, 0) := by
  refine ev_of_wp rfl rfl rfl ?_
  have hn := hC.1
  have hp := pow10 hn
  have hp1 : 1 ≤ 2 ^ n := Nat.one_le_two_pow
  have hal := all_lt hn
  refine wp_go (f' := (5, [.ref 0, .int v, .int x, .retAddr 0], [.int v, .ref 1], MW A B F sw, 0, 0)) 3 rfl ?_
  refine wp_call rfl rfl rfl (ev_up (ev_hasF hC hv) (by decide)) ?_
  refine wp_eq (f' := (8, [.ref 0, .int v, .int x, .retAddr 0], [.int (nI 0)], MW A B F sw, 0, 0)) rfl ?_
  refine wp_go (f' := ((if (nI 0) = 0 then 22 else 11), [.ref 0, .int v, .int x, .retAddr 0], [], MW A B F sw, 0, 0)) 1 rfl ?_
  refine wp_ite (fun _ => ?_) (fun h9 => absurd (rfl : nI 0 = 0) h9)
  refine wp_go (f' := (24, [.ref 0, .int v, .int x, .retAddr 0], [.int (-2)], MW A B F sw, 0, 0)) 1 rfl ?_
  exact wp_iret rfl
theorem ev_bWeigh_f2 (hC : CI A F n nb) {a : Nat} {x : Int32} (ha : a < n) (hx : x < 0) : mv_Ev xs Ls 2 14 [.ref 0, .int (nI a), .int x] (MW A B F sw) (some (.int (-2)), MW A B F sw, 0, 0) := by
  refine ev_of_wp rfl rfl rfl ?_
  have hn := hC.1
  have hp := pow10 hn
  have hp1 : 1 ≤ 2 ^ n := Nat.one_le_two_pow
  have hal := all_lt hn
  refine wp_go (f' := (5, [.ref 0, .int (nI a), .int x, .retAddr 0], [.int (nI a), .ref 1], MW A B F sw, 0, 0)) 3 rfl ?_
  refine wp_call rfl rfl rfl (ev_up (ev_hasT hC (a := a) (by omega)) (by decide)) ?_
  refine wp_eq (f' := (8, [.ref 0, .int (nI a), .int x, .retAddr 0], [.int (nI 1)], MW A B F sw, 0, 0)) rfl ?_
  refine wp_go (f' := ((if (nI 1) = 0 then 22 else 11), [.ref 0, .int (nI a), .int x, .retAddr 0], [], MW A B F sw, 0, 0)) 1 rfl ?_
  refine wp_ite (fun h9 => absurd h9 (by decide : ¬ nI 1 = 0)) (fun _ => ?_)
  refine wp_go (f' := ((if x < 0 then 22 else 15), [.ref 0, .int (nI a), .int x, .retAddr 0], [], MW A B F sw, 0, 0)) 2 rfl ?_
  refine wp_ite (fun _ => ?_) (fun h9 => absurd hx h9)
  refine wp_go (f' := (24, [.ref 0, .int (nI a), .int x, .retAddr 0], [.int (-2)], MW A B F sw, 0, 0)) 1 rfl ?_
  exact wp_iret rfl
theorem ev_bWeigh_f3 (hC : CI A F n nb) {a : Nat} {x : Int32} (ha : a < n) (hx : ¬ x < 0) (hx2 : ¬ x ≤ nI 1000) : mv_Ev xs Ls 2 14 [.ref 0, .int (nI a), .int x] (MW A B F sw) (some (.int (-2)), MW A B F sw, 0, 0) := by
  refine ev_of_wp rfl rfl rfl ?_
  have hn := hC.1
  have hp := pow10 hn
  have hp1 : 1 ≤ 2 ^ n := Nat.one_le_two_pow
  have hal := all_lt hn
  refine wp_go (f' := (5, [.ref 0, .int (nI a), .int x, .retAddr 0], [.int (nI a), .ref 1], MW A B F sw, 0, 0)) 3 rfl ?_
  refine wp_call rfl rfl rfl (ev_up (ev_hasT hC (a := a) (by omega)) (by decide)) ?_
  refine wp_eq (f' := (8, [.ref 0, .int (nI a), .int x, .retAddr 0], [.int (nI 1)], MW A B F sw, 0, 0)) rfl ?_
  refine wp_go (f' := ((if (nI 1) = 0 then 22 else 11), [.ref 0, .int (nI a), .int x, .retAddr 0], [], MW A B F sw, 0, 0)) 1 rfl ?_
  refine wp_ite (fun h9 => absurd h9 (by decide : ¬ nI 1 = 0)) (fun _ => ?_)
  refine wp_go (f' := ((if x < 0 then 22 else 15), [.ref 0, .int (nI a), .int x, .retAddr 0], [], MW A B F sw, 0, 0)) 2 rfl ?_
  refine wp_ite (fun h9 => absurd h9 hx) (fun _ => ?_)
  refine wp_go (f' := ((if x ≤ (nI 1000) then 25 else 22), [.ref 0, .int (nI a), .int x, .retAddr 0], [], MW A B F sw, 0, 0)) 3 rfl ?_
  refine wp_ite (fun h9 => absurd h9 hx2) (fun _ => ?_)
  refine wp_go (f' := (24, [.ref 0, .int (nI a), .int x, .retAddr 0], [.int (-2)], MW A B F sw, 0, 0)) 1 rfl ?_
  exact wp_iret rfl
theorem ev_bWeigh_ok (hC : CI A F n nb) {wt : Nat → Nat} (hw : CWt A wt) {a : Nat} {x : Int32} (ha : a < n) (hx : ¬ x < 0) (hx2 : x ≤ nI 1000) : mv_Ev xs Ls 2 14 [.ref 0, .int (nI a), .int x] (MW A B F sw) (some (.int (nI (wt a))), MW (upA A 3 (upd (A 3) a x)) B F sw, 0, 0) := by
  refine ev_of_wp rfl rfl rfl ?_
  have hn := hC.1
  have hp := pow10 hn
  have hp1 : 1 ≤ 2 ^ n := Nat.one_le_two_pow
  have hal := all_lt hn
  refine wp_go (f' := (5, [.ref 0, .int (nI a), .int x, .retAddr 0], [.int (nI a), .ref 1], MW A B F sw, 0, 0)) 3 rfl ?_
  refine wp_call rfl rfl rfl (ev_up (ev_hasT hC (a := a) (by omega)) (by decide)) ?_
  refine wp_eq (f' := (8, [.ref 0, .int (nI a), .int x, .retAddr 0], [.int (nI 1)], MW A B F sw, 0, 0)) rfl ?_
  refine wp_go (f' := ((if (nI 1) = 0 then 22 else 11), [.ref 0, .int (nI a), .int x, .retAddr 0], [], MW A B F sw, 0, 0)) 1 rfl ?_
  refine wp_ite (fun h9 => absurd h9 (by decide : ¬ nI 1 = 0)) (fun _ => ?_)
  refine wp_go (f' := ((if x < 0 then 22 else 15), [.ref 0, .int (nI a), .int x, .retAddr 0], [], MW A B F sw, 0, 0)) 2 rfl ?_
  refine wp_ite (fun h9 => absurd h9 hx) (fun _ => ?_)
  refine wp_go (f' := ((if x ≤ (nI 1000) then 25 else 22), [.ref 0, .int (nI a), .int x, .retAddr 0], [], MW A B F sw, 0, 0)) 3 rfl ?_
  refine wp_ite (fun _ => ?_) (fun h9 => absurd hx2 h9)
  refine wp_go (f' := (33, [.ref 0, .int (nI a), .int x, .retAddr 0], [.int (nI a), .ref 3], MW A B F sw, 0, 0)) 4 rfl ?_
  refine wp_iald rfl rfl (by omega) (by decide) ?_
  rw [(hw a (by omega)).1]
  refine wp_go (f' := (44, [.ref 0, .int (nI a), .int x, .int (nI (wt a))], [.int x, .int (nI a), .ref 3], MW A B F sw, 0, 0)) 6 rfl ?_
  refine wp_iast rfl rfl (by omega) (by decide) ?_
  refine wp_eq (f' := (45, [.ref 0, .int (nI a), .int x, .int (nI (wt a))], [], MW (upA A 3 (upd (A 3) a x)) B F sw, 0, 0)) rfl ?_
  refine wp_go (f' := (46, [.ref 0, .int (nI a), .int x, .int (nI (wt a))], [.int (nI (wt a))], MW (upA A 3 (upd (A 3) a x)) B F sw, 0, 0)) 1 rfl ?_
  exact wp_iret rfl
theorem ev_bBegin_f1 {v : Int32} (hv : v < 0) : mv_Ev xs Ls 2 6 [.ref 0, .int v] (MW A B F sw) (some (.int (-2)), MW A B F sw, 0, 0) := by
  refine ev_of_wp rfl rfl rfl ?_
  refine wp_go (f' := ((if v < 0 then 10 else 4), [.ref 0, .int v, .retAddr 0], [], MW A B F sw, 0, 0)) 2 rfl ?_
  refine wp_ite (fun _ => ?_) (fun h9 => absurd hv h9)
  refine wp_go (f' := (12, [.ref 0, .int v, .retAddr 0], [.int (-2)], MW A B F sw, 0, 0)) 1 rfl ?_
  exact wp_iret rfl
theorem ev_bBegin_f2 {v : Int32} (hv : ¬ v < 0) (hv2 : ¬ v ≤ nI 10) : mv_Ev xs Ls 2 6 [.ref 0, .int v] (MW A B F sw) (some (.int (-2)), MW A B F sw, 0, 0) := by
  refine ev_of_wp rfl rfl rfl ?_
  refine wp_go (f' := ((if v < 0 then 10 else 4), [.ref 0, .int v, .retAddr 0], [], MW A B F sw, 0, 0)) 2 rfl ?_
  refine wp_ite (fun h9 => absurd h9 hv) (fun _ => ?_)
  refine wp_go (f' := ((if v ≤ (nI 10) then 13 else 10), [.ref 0, .int v, .retAddr 0], [], MW A B F sw, 0, 0)) 3 rfl ?_
  refine wp_ite (fun h9 => absurd h9 hv2) (fun _ => ?_)
  refine wp_go (f' := (12, [.ref 0, .int v, .retAddr 0], [.int (-2)], MW A B F sw, 0, 0)) 1 rfl ?_
  exact wp_iret rfl
theorem ev_bBegin_ok {v : Int32} (hv : ¬ v < 0) (hv2 : v ≤ nI 10) : mv_Ev xs Ls 2 6 [.ref 0, .int v] (MW A B F sw) (some (.int (F 0)), MW (upA (upA A 2 (cleared A 2 3).1) 3 (cleared A 2 3).2) B (upF (upF (upF F 0 v) 1 (nI 0)) 2 (F 2 + nI 1)) sw, 0, 0) := by
  refine ev_of_wp rfl rfl rfl ?_
  refine wp_go (f' := ((if v < 0 then 10 else 4), [.ref 0, .int v, .retAddr 0], [], MW A B F sw, 0, 0)) 2 rfl ?_
  refine wp_ite (fun h9 => absurd h9 hv) (fun _ => ?_)
  refine wp_go (f' := ((if v ≤ (nI 10) then 13 else 10), [.ref 0, .int v, .retAddr 0], [], MW A B F sw, 0, 0)) 3 rfl ?_
  refine wp_ite (fun _ => ?_) (fun h9 => absurd hv2 h9)
  refine wp_go (f' := (26, [.ref 0, .int v, .int (F 0)], [.int v, .ref 1], MW A B F sw, 0, 0)) 7 rfl ?_
  refine wp_call rfl rfl rfl (ev_up (ev_gStart v) (by decide)) ?_
  refine wp_eq (f' := (29, [.ref 0, .int v, .int (F 0)], [], MW (upA (upA A 2 (cleared A 2 3).1) 3 (cleared A 2 3).2) B (upF (upF (upF F 0 v) 1 (nI 0)) 2 (F 2 + nI 1)) sw, 0, 0)) rfl ?_
  refine wp_go (f' := (30, [.ref 0, .int v, .int (F 0)], [.int (F 0)], MW (upA (upA A 2 (cleared A 2 3).1) 3 (cleared A 2 3).2) B (upF (upF (upF F 0 v) 1 (nI 0)) 2 (F 2 + nI 1)) sw, 0, 0)) 1 rfl ?_
  exact wp_iret rfl
theorem ev_fMost (hC : CI A F n nb) : mv_Ev xs Ls 2 22 [.ref 23] (MW A B F sw) (some (.int (nI (degN n nb))), MW A B F sw, 0, 0) := by
  refine ev_of_wp rfl rfl rfl ?_
  have hn := hC.1
  have hp := pow10 hn
  have hp1 : 1 ≤ 2 ^ n := Nat.one_le_two_pow
  have hal := all_lt hn
  refine wp_go (f' := (4, [.ref 23, .int (nI 0), .int (nI 0)], [], MW A B F sw, 0, 0)) 4 rfl ?_
  refine for_ind (P := fun (k : Nat) (m : Nat) => m ≤ 10 → mv_Wp xs Ls 1 1 false (some .int) mv_c22 (4, [.ref 23, .int (nI m), .int (nI k)], [], MW A B F sw, 0, 0) (some (.int (nI (degN n nb))), MW A B F sw, 0, 0)) (f := fun k m => if m < pop (nb k) then pop (nb k) else m) (n := n) ?_ n 0 (Nat.le_refl _) ?_ ?_ 
  · intro k m hk ih hv 
    refine wp_go (f' := (12, [.ref 23, .int (nI m), .int (nI k)], [.int (F 0), .int (nI k)], MW A B F sw, 0, 0)) 4 rfl ?_
    rw [hC.2.1]
    refine wp_go (f' := ((if (nI n) ≤ (nI k) then 38 else 15), [.ref 23, .int (nI m), .int (nI k)], [], MW A B F sw, 0, 0)) 1 rfl ?_
    refine wp_ite (fun h9 => absurd h9 (nI_ge hk (by omega))) (fun _ => ?_)
    refine wp_go (f' := (24, [.ref 23, .int (nI m), .int (nI k)], [.int (nI k), .ref 2, .int (nI m)], MW A B F sw, 0, 0)) 5 rfl ?_
    refine wp_iald rfl rfl (by omega) (by decide) ?_
    rw [hC.2.2.1 k (by omega)]
    have hnb := hC.2.2.2 k (by omega)
    refine wp_call rfl rfl rfl (ev_up (ev_bitCount (s := nb k) (by omega) _) (by decide)) ?_
    refine wp_eq (f' := (28, [.ref 23, .int (nI m), .int (nI k)], [.int (nI (pop (nb k))), .int (nI m)], MW A B F sw, 0, 0)) rfl ?_
    have hpp := pop_le (s := nb k) (by omega)
    refine wp_go (f' := (31, [.ref 23, .int (nI m), .int (nI k)], [.int (if (nI m) < (nI (pop (nb k))) then nI (pop (nb k)) else nI m)], MW A B F sw, 0, 0)) 1 rfl ?_
    rw [nI_ite (by first | omega | (split <;> omega)) (by first | omega | (split <;> omega))]
    refine wp_go (f' := (35, [.ref 23, .int (nI (if m < pop (nb k) then pop (nb k) else m)), .int ((nI k) + 1)], [], MW A B F sw, 0, 0)) 2 rfl ?_
    rw [nI_1]
    refine wp_go (f' := (4, [.ref 23, .int (nI (if m < pop (nb k) then pop (nb k) else m)), .int (nI (k + 1))], [], MW A B F sw, 0, 0)) 1 rfl ?_
    exact ih (by split <;> omega)
  · intro hv 
    refine wp_go (f' := (12, [.ref 23, .int (nI (degN n nb)), .int (nI n)], [.int (F 0), .int (nI n)], MW A B F sw, 0, 0)) 4 rfl ?_
    rw [hC.2.1]
    refine wp_go (f' := ((if (nI n) ≤ (nI n) then 38 else 15), [.ref 23, .int (nI (degN n nb)), .int (nI n)], [], MW A B F sw, 0, 0)) 1 rfl ?_
    refine wp_ite (fun _ => ?_) (fun h9 => absurd (nI_le (Nat.le_refl _) (by omega)) h9)
    refine wp_go (f' := (39, [.ref 23, .int (nI (degN n nb)), .int (nI n)], [.int (nI (degN n nb))], MW A B F sw, 0, 0)) 1 rfl ?_
    exact wp_iret rfl
  · omega
theorem ev_fClique (hC : CI A F n nb) {s : Nat} (hs : s < 1024) : mv_Ev xs Ls 2 55 [.ref 23, .int (nI s)] (MW A B F sw) (some (.int (bI (cclN n nb s))), MW A B F sw, 0, 0) := by
  refine ev_of_wp rfl rfl rfl ?_
  have hn := hC.1
  have hp := pow10 hn
  have hp1 : 1 ≤ 2 ^ n := Nat.one_le_two_pow
  have hal := all_lt hn
  refine wp_go (f' := (4, [.ref 23, .int (nI s), .retAddr 0, .retAddr 0], [.ref 1], MW A B F sw, 0, 0)) 2 rfl ?_
  refine wp_call rfl rfl rfl (ev_up (ev_gAll hC) (by decide)) ?_
  refine wp_eq (f' := (7, [.ref 23, .int (nI s), .retAddr 0, .retAddr 0], [.int (nI (2 ^ n - 1))], MW A B F sw, 0, 0)) rfl ?_
  refine wp_go (f' := (10, [.ref 23, .int (nI s), .int (nI (2 ^ n - 1)), .int (nI 0)], [], MW A B F sw, 0, 0)) 3 rfl ?_
  refine for_ind (P := fun (k : Nat) (c : Nat) => c < 1024 → mv_Wp xs Ls 1 1 false (some .boolean) mv_c55 (10, [.ref 23, .int (nI s), .int (nI c), .int (nI k)], [], MW A B F sw, 0, 0) (some (.int (bI (cclN n nb s))), MW A B F sw, 0, 0)) (f := fun k c => if s.testBit k then c &&& (nb k ||| 2 ^ k) else c) (n := n) ?_ n (2 ^ n - 1) (Nat.le_refl _) ?_ ?_ 
  · intro k c hk ih hv 
    refine wp_go (f' := (18, [.ref 23, .int (nI s), .int (nI c), .int (nI k)], [.int (F 0), .int (nI k)], MW A B F sw, 0, 0)) 4 rfl ?_
    rw [hC.2.1]
    refine wp_go (f' := ((if (nI n) ≤ (nI k) then 51 else 21), [.ref 23, .int (nI s), .int (nI c), .int (nI k)], [], MW A B F sw, 0, 0)) 1 rfl ?_
    refine wp_ite (fun h9 => absurd h9 (nI_ge hk (by omega))) (fun _ => ?_)
    refine wp_go (f' := (26, [.ref 23, .int (nI s), .int (nI c), .int (nI k)], [.int (((nI s) >>> ((nI k) &&& 31)) &&& (nI 1))], MW A B F sw, 0, 0)) 5 rfl ?_
    rw [bx_bit (by omega) (by omega)]
    refine wp_go (f' := ((if (bI (s.testBit k)) = 0 then 45 else 29), [.ref 23, .int (nI s), .int (nI c), .int (nI k)], [], MW A B F sw, 0, 0)) 1 rfl ?_
    refine wp_ite (fun h1 => ?_) (fun h1 => ?_)
    · have h1 := bI_0.mp h1
      refine wp_go (f' := (48, [.ref 23, .int (nI s), .int (nI c), .int ((nI k) + 1)], [], MW A B F sw, 0, 0)) 1 rfl ?_
      rw [nI_1]
      refine wp_go (f' := (10, [.ref 23, .int (nI s), .int (nI c), .int (nI (k + 1))], [], MW A B F sw, 0, 0)) 1 rfl ?_
      have e9 : (if s.testBit k then c &&& (nb k ||| 2 ^ k) else c) = c := by simp [h1]
      have h8 := ih (by rw [e9]; first | omega | exact and_lt (by omega))
      rw [e9] at h8
      exact h8
    · have h1 := bI_n0 h1
      refine wp_go (f' := (38, [.ref 23, .int (nI s), .int (nI c), .int (nI k)], [.int (nI k), .ref 2, .int (nI c)], MW A B F sw, 0, 0)) 5 rfl ?_
      refine wp_iald rfl rfl (by omega) (by decide) ?_
      rw [hC.2.2.1 k (by omega)]
      have hnb := hC.2.2.2 k (by omega)
      refine wp_go (f' := (42, [.ref 23, .int (nI s), .int (nI c), .int (nI k)], [.int ((nI 1) <<< ((nI k) &&& 31)), .int (nI (nb k)), .int (nI c)], MW A B F sw, 0, 0)) 3 rfl ?_
      rw [bx_one (by omega)]
      refine wp_go (f' := (43, [.ref 23, .int (nI s), .int (nI c), .int (nI k)], [.int ((nI (nb k)) ||| (nI (2 ^ k))), .int (nI c)], MW A B F sw, 0, 0)) 1 rfl ?_
      rw [bx_or]
      refine wp_go (f' := (44, [.ref 23, .int (nI s), .int (nI c), .int (nI k)], [.int ((nI c) &&& (nI ((nb k) ||| (2 ^ k))))], MW A B F sw, 0, 0)) 1 rfl ?_
      rw [bx_and]
      refine wp_go (f' := (48, [.ref 23, .int (nI s), .int (nI (c &&& ((nb k) ||| (2 ^ k)))), .int ((nI k) + 1)], [], MW A B F sw, 0, 0)) 2 rfl ?_
      rw [nI_1]
      refine wp_go (f' := (10, [.ref 23, .int (nI s), .int (nI (c &&& ((nb k) ||| (2 ^ k)))), .int (nI (k + 1))], [], MW A B F sw, 0, 0)) 1 rfl ?_
      have e9 : (if s.testBit k then c &&& (nb k ||| 2 ^ k) else c) = c &&& ((nb k) ||| (2 ^ k)) := by simp [h1]
      have h8 := ih (by rw [e9]; first | omega | exact and_lt (by omega))
      rw [e9] at h8
      exact h8
  · intro hv 
    refine wp_go (f' := (18, [.ref 23, .int (nI s), .int (nI (forN (fun k c => if s.testBit k then c &&& (nb k ||| 2 ^ k) else c) n (2 ^ n - 1))), .int (nI n)], [.int (F 0), .int (nI n)], MW A B F sw, 0, 0)) 4 rfl ?_
    rw [hC.2.1]
    refine wp_go (f' := ((if (nI n) ≤ (nI n) then 51 else 21), [.ref 23, .int (nI s), .int (nI (forN (fun k c => if s.testBit k then c &&& (nb k ||| 2 ^ k) else c) n (2 ^ n - 1))), .int (nI n)], [], MW A B F sw, 0, 0)) 1 rfl ?_
    refine wp_ite (fun _ => ?_) (fun h9 => absurd (nI_le (Nat.le_refl _) (by omega)) h9)
    refine wp_go (f' := ((if (nI s) = 0 then 64 else 55), [.ref 23, .int (nI s), .int (nI (forN (fun k c => if s.testBit k then c &&& (nb k ||| 2 ^ k) else c) n (2 ^ n - 1))), .int (nI n)], [], MW A B F sw, 0, 0)) 2 rfl ?_
    refine wp_ite (fun h1 => ?_) (fun h1 => ?_)
    · have h1 : s = 0 := (nI_eq (a := s) (b := 0) (by omega) (by omega)).mp h1
      refine wp_go (f' := (65, [.ref 23, .int (nI s), .int (nI (forN (fun k c => if s.testBit k then c &&& (nb k ||| 2 ^ k) else c) n (2 ^ n - 1))), .int (nI n)], [.int (nI 0)], MW A B F sw, 0, 0)) 1 rfl ?_
      rw [show cclN n nb s = false from ?_]
      · exact wp_zret rfl (by first | exact Or.inl rfl | exact Or.inr rfl)
      · unfold cclN; rw [decide_eq_false (show ¬ ¬ s = 0 from fun h9 => h9 h1)]; rfl
    · have h1 : ¬ (s = 0) := fun h9 => h1 ((nI_eq (a := s) (b := 0) (by omega) (by omega)).mpr h9)
      refine wp_go (f' := ((if ¬ (nI (forN (fun k c => if s.testBit k then c &&& (nb k ||| 2 ^ k) else c) n (2 ^ n - 1))) = (nI s) then 64 else 60), [.ref 23, .int (nI s), .int (nI (forN (fun k c => if s.testBit k then c &&& (nb k ||| 2 ^ k) else c) n (2 ^ n - 1))), .int (nI n)], [], MW A B F sw, 0, 0)) 3 rfl ?_
      refine wp_ite (fun h2 => ?_) (fun h2 => ?_)
      · have h2 : ¬ (forN (fun k c => if s.testBit k then c &&& (nb k ||| 2 ^ k) else c) n (2 ^ n - 1) = s) := fun h9 => h2 ((nI_eq (a := forN (fun k c => if s.testBit k then c &&& (nb k ||| 2 ^ k) else c) n (2 ^ n - 1)) (b := s) (by omega) (by omega)).mpr h9)
        refine wp_go (f' := (65, [.ref 23, .int (nI s), .int (nI (forN (fun k c => if s.testBit k then c &&& (nb k ||| 2 ^ k) else c) n (2 ^ n - 1))), .int (nI n)], [.int (nI 0)], MW A B F sw, 0, 0)) 1 rfl ?_
        rw [show cclN n nb s = false from ?_]
        · exact wp_zret rfl (by first | exact Or.inl rfl | exact Or.inr rfl)
        · unfold cclN; rw [decide_eq_true h1, decide_eq_false h2]; rfl
      · have h2 := Classical.not_not.mp h2; have h2 : forN (fun k c => if s.testBit k then c &&& (nb k ||| 2 ^ k) else c) n (2 ^ n - 1) = s := (nI_eq (a := forN (fun k c => if s.testBit k then c &&& (nb k ||| 2 ^ k) else c) n (2 ^ n - 1)) (b := s) (by omega) (by omega)).mp h2
        refine wp_go (f' := (65, [.ref 23, .int (nI s), .int (nI (forN (fun k c => if s.testBit k then c &&& (nb k ||| 2 ^ k) else c) n (2 ^ n - 1))), .int (nI n)], [.int (nI 1)], MW A B F sw, 0, 0)) 2 rfl ?_
        rw [show cclN n nb s = true from ?_]
        · exact wp_zret rfl (by first | exact Or.inl rfl | exact Or.inr rfl)
        · unfold cclN; rw [decide_eq_true h1, decide_eq_true h2]; rfl
  · omega
end CC
