/-! the class's rows over all sets, by the set without its lowest vertex -/
def lowF (g : Nat → Nat → Nat) : Nat → Nat → Nat
  | 0, _ => 0
  | f + 1, s => if s = 0 then 0 else g s (lowF g f (s &&& (s - 1)))
def lowN (g : Nat → Nat → Nat) (s : Nat) : Nat := lowF g 1024 s
theorem lowF_succ (g : Nat → Nat → Nat) (f s : Nat) : lowF g (f + 1) s = if s = 0 then 0 else g s (lowF g f (s &&& (s - 1))) := rfl
theorem lowF_fuel {g : Nat → Nat → Nat} : ∀ (f m s : Nat), s ≤ f → s ≤ m → lowF g f s = lowF g m s
  | 0, 0, s, h1, h2 => rfl
  | 0, m + 1, s, h1, h2 => by
    have : s = 0 := by omega
    subst this; simp [lowF]
  | f + 1, 0, s, h1, h2 => by
    have : s = 0 := by omega
    subst this; simp [lowF]
  | f + 1, m + 1, s, h1, h2 => by
    rw [lowF_succ, lowF_succ]
    by_cases h : s = 0
    · rw [if_pos h, if_pos h]
    · rw [if_neg h, if_neg h]
      have : s &&& (s - 1) ≤ s - 1 := Nat.and_le_right
      rw [lowF_fuel f m _ (by omega) (by omega)]
theorem lowN_0 (g : Nat → Nat → Nat) : lowN g 0 = 0 := by
  unfold lowN
  rw [show (1024 : Nat) = 1023 + 1 from rfl, lowF_succ]
  exact if_pos rfl
theorem lowN_s {g : Nat → Nat → Nat} {s : Nat} (hs : s < 1024) (h0 : ¬ s = 0) : lowN g s = g s (lowN g (s &&& (s - 1))) := by
  have : s &&& (s - 1) ≤ s - 1 := Nat.and_le_right
  unfold lowN
  rw [show lowF g 1024 s = lowF g (1023 + 1) s from rfl, lowF_succ, if_neg h0, lowF_fuel 1023 1024 _ (by omega) (by omega)]
/-- all that some vertex of s is linked to -/
def rcN (nb : Nat → Nat) (s : Nat) : Nat := lowN (fun s r => r ||| nb (low s)) s
/-- the edges within s -/
def inN (nb : Nat → Nat) (s : Nat) : Nat := lowN (fun s r => r + pop (nb (low s) &&& (s &&& (s - 1)))) s
/-- the part of s that its lowest vertex is in -/
def pcN (nb : Nat → Nat) (s : Nat) : Nat := if s = 0 then 0 else spN (rcN nb) s
theorem rc_s {nb : Nat → Nat} {s : Nat} (hs : s < 1024) (h0 : ¬ s = 0) : rcN nb s = rcN nb (s &&& (s - 1)) ||| nb (low s) := lowN_s hs h0
theorem in_s {nb : Nat → Nat} {s : Nat} (hs : s < 1024) (h0 : ¬ s = 0) : inN nb s = inN nb (s &&& (s - 1)) + pop (nb (low s) &&& (s &&& (s - 1))) := lowN_s hs h0
/-- a row whose first N places are told -/
def rowT (T : Nat → Nat) (N : Nat) (g : Nat → Int32) : Nat → Int32 := fun j => if j < N then nI (T j) else g j
theorem rowT_at {T : Nat → Nat} {N : Nat} {g : Nat → Int32} {j : Nat} (h : j < N) : rowT T N g j = nI (T j) := if_pos h
theorem rowT_s {T : Nat → Nat} {N : Nat} {g : Nat → Int32} : upd (rowT T N g) N (nI (T N)) = rowT T (N + 1) g := by
  funext j
  unfold upd rowT
  by_cases h : j = N
  · subst h; simp
  · by_cases h2 : j < N
    · simp [h, h2, show j < N + 1 by omega]
    · simp [h, h2, show ¬ j < N + 1 by omega]
theorem rowT_1 {T : Nat → Nat} {g : Nat → Int32} (h : g 0 = nI (T 0)) : rowT T 1 g = g := by
  funext j
  unfold rowT
  by_cases h0 : j < 1
  · have : j = 0 := by omega
    subst this; rw [if_pos h0, h]
  · rw [if_neg h0]
/-- the first place of each row, never written -/
def CZ (A : Nat → Nat → Int32) : Prop := A 4 0 = nI 0 ∧ A 5 0 = nI 0 ∧ A 6 0 = nI 0
section CC
variable {xs : Nat → Int32} {Ls : Nat} {A : Nat → Nat → Int32} {B : Nat → Nat → Int64} {F : Nat → Int32} {sw : Bool} {n : Nat} {nb : Nat → Nat}
theorem ev_rows0 (heq : F 3 = F 2) : mv_Ev xs Ls 3 17 [.ref 1] (MW A B F sw) (none, MW A B F sw, 0, 0) := by
  refine ev_of_wp rfl rfl rfl ?_
  refine wp_go (f' := ((if ¬ (F 3) = (F 2) then 12 else 11), [.ref 1, .retAddr 0, .retAddr 0, .retAddr 0, .retAddr 0], [], MW A B F sw, 0, 0)) 5 rfl ?_
  refine wp_ite (fun h9 => absurd h9 (fun h8 => h8 heq)) (fun _ => ?_)
  exact wp_vret rfl
theorem ev_rows (hC : CI A F n nb) (hZ : CZ A) (heq : ¬ F 3 = F 2) : mv_Ev xs Ls 3 17 [.ref 1] (MW A B F sw) (none, MW (upA (upA (upA A 4 (rowT (rcN nb) (2 ^ n) (A 4))) 5 (rowT (inN nb) (2 ^ n) (A 5))) 6 (rowT (pcN nb) (2 ^ n) (A 6))) B (upF F 3 (F 2)) sw, 0, 0) := by
  refine ev_of_wp rfl rfl rfl ?_
  have hn := hC.1
  have hp := pow10 hn
  have hp1 : 1 ≤ 2 ^ n := Nat.one_le_two_pow
  have hal := all_lt hn
  refine wp_go (f' := ((if ¬ (F 3) = (F 2) then 12 else 11), [.ref 1, .retAddr 0, .retAddr 0, .retAddr 0, .retAddr 0], [], MW A B F sw, 0, 0)) 5 rfl ?_
  refine wp_ite (fun _ => ?_) (fun h9 => absurd heq h9)
  refine wp_go (f' := (21, [.ref 1, .retAddr 0, .retAddr 0, .retAddr 0, .retAddr 0], [.ref 1], MW A B (upF F 3 (F 2)) sw, 0, 0)) 5 rfl ?_
  refine wp_call rfl rfl rfl (ev_up (ev_gAll hC) (by decide)) ?_
  refine wp_eq (f' := (24, [.ref 1, .retAddr 0, .retAddr 0, .retAddr 0, .retAddr 0], [.int (nI (2 ^ n - 1))], MW A B (upF F 3 (F 2)) sw, 0, 0)) rfl ?_
  refine wp_go (f' := (27, [.ref 1, .int (nI (2 ^ n - 1)), .int (nI 1), .retAddr 0, .retAddr 0], [], MW A B (upF F 3 (F 2)) sw, 0, 0)) 3 rfl ?_
  refine wp_eq (f' := (27, [.ref 1, .int (nI (2 ^ n - 1)), .int (nI 1), .retAddr 0, .retAddr 0], [], MW (upA (upA (upA A 4 (A 4)) 5 (A 5)) 6 (A 6)) B (upF F 3 (F 2)) sw, 0, 0)) rfl ?_
  refine wp_eq (f' := (27, [.ref 1, .int (nI (2 ^ n - 1)), .int (nI 1), .retAddr 0, .retAddr 0], [], MW (upA (upA (upA A 4 (rowT (rcN nb) 1 (A 4))) 5 (rowT (inN nb) 1 (A 5))) 6 (rowT (pcN nb) 1 (A 6))) B (upF F 3 (F 2)) sw, 0, 0)) (by rw [rowT_1 (T := rcN nb) (g := A 4) (by rw [hZ.1]; unfold rcN; rw [lowN_0]), rowT_1 (T := inN nb) (g := A 5) (by rw [hZ.2.1]; unfold inN; rw [lowN_0]), rowT_1 (T := pcN nb) (g := A 6) (by rw [hZ.2.2]; rfl)]) ?_
  refine for_ind (P := fun (k : Nat) (_ : Unit) => ∀ d3 d4 : Value, mv_Wp xs Ls 2 2 false none mv_c17 (27, [.ref 1, .int (nI (2 ^ n - 1)), .int (nI (k + 1)), d3, d4], [], MW (upA (upA (upA A 4 (rowT (rcN nb) (k + 1) (A 4))) 5 (rowT (inN nb) (k + 1) (A 5))) 6 (rowT (pcN nb) (k + 1) (A 6))) B (upF F 3 (F 2)) sw, 0, 0) (none, MW (upA (upA (upA A 4 (rowT (rcN nb) (2 ^ n) (A 4))) 5 (rowT (inN nb) (2 ^ n) (A 5))) 6 (rowT (pcN nb) (2 ^ n) (A 6))) B (upF F 3 (F 2)) sw, 0, 0)) (f := fun _ a => a) (n := 2 ^ n - 1) ?_ (2 ^ n - 1) () (Nat.le_refl _) ?_ _ _
  · intro k _ hk ih d3 d4
    have hrl : (k + 1) &&& (k + 1 - 1) ≤ k + 1 - 1 := Nat.and_le_right
    refine wp_go (f' := ((if (nI (2 ^ n - 1)) < (nI (k + 1)) then 104 else 32), [.ref 1, .int (nI (2 ^ n - 1)), .int (nI (k + 1)), d3, d4], [], MW (upA (upA (upA A 4 (rowT (rcN nb) (k + 1) (A 4))) 5 (rowT (inN nb) (k + 1) (A 5))) 6 (rowT (pcN nb) (k + 1) (A 6))) B (upF F 3 (F 2)) sw, 0, 0)) 3 rfl ?_
    refine wp_ite (fun h9 => absurd h9 (nI_nlt (by omega) (by omega))) (fun _ => ?_)
    refine wp_go (f' := (36, [.ref 1, .int (nI (2 ^ n - 1)), .int (nI (k + 1)), d3, d4], [.int ((nI (k + 1)) - (nI 1)), .int (nI (k + 1))], MW (upA (upA (upA A 4 (rowT (rcN nb) (k + 1) (A 4))) 5 (rowT (inN nb) (k + 1) (A 5))) 6 (rowT (pcN nb) (k + 1) (A 6))) B (upF F 3 (F 2)) sw, 0, 0)) 4 rfl ?_
    rw [pk_sub (by omega)]
    refine wp_go (f' := (37, [.ref 1, .int (nI (2 ^ n - 1)), .int (nI (k + 1)), d3, d4], [.int ((nI (k + 1)) &&& (nI ((k + 1) - 1)))], MW (upA (upA (upA A 4 (rowT (rcN nb) (k + 1) (A 4))) 5 (rowT (inN nb) (k + 1) (A 5))) 6 (rowT (pcN nb) (k + 1) (A 6))) B (upF F 3 (F 2)) sw, 0, 0)) 1 rfl ?_
    rw [bx_and]
    refine wp_go (f' := (43, [.ref 1, .int (nI (2 ^ n - 1)), .int (nI (k + 1)), .int (nI ((k + 1) &&& ((k + 1) - 1))), d4], [.int (nI (k + 1)), .ref 2], MW (upA (upA (upA A 4 (rowT (rcN nb) (k + 1) (A 4))) 5 (rowT (inN nb) (k + 1) (A 5))) 6 (rowT (pcN nb) (k + 1) (A 6))) B (upF F 3 (F 2)) sw, 0, 0)) 4 rfl ?_
    refine wp_call rfl rfl rfl (ev_up (ev_low (s := k + 1) (by omega) (by omega) _) (by decide)) ?_
    refine wp_eq (f' := (46, [.ref 1, .int (nI (2 ^ n - 1)), .int (nI (k + 1)), .int (nI ((k + 1) &&& ((k + 1) - 1))), d4], [.int (nI (low (k + 1))), .ref 2], MW (upA (upA (upA A 4 (rowT (rcN nb) (k + 1) (A 4))) 5 (rowT (inN nb) (k + 1) (A 5))) 6 (rowT (pcN nb) (k + 1) (A 6))) B (upF F 3 (F 2)) sw, 0, 0)) rfl ?_
    have hlw := low_lt (s := k + 1) (by omega) (by omega)
    have hnl := hC.2.2.2 (low (k + 1)) (by omega)
    have hb9 : nb (low (k + 1)) &&& ((k + 1) &&& (k + 1 - 1)) < 1024 := and_lt (by omega)
    refine wp_iald rfl rfl (by omega) (by decide) ?_
    refine wp_eq (f' := (47, [.ref 1, .int (nI (2 ^ n - 1)), .int (nI (k + 1)), .int (nI ((k + 1) &&& ((k + 1) - 1))), d4], [.int ((A 2) (low (k + 1)))], MW (upA (upA (upA A 4 (rowT (rcN nb) (k + 1) (A 4))) 5 (rowT (inN nb) (k + 1) (A 5))) 6 (rowT (pcN nb) (k + 1) (A 6))) B (upF F 3 (F 2)) sw, 0, 0)) rfl ?_
    rw [hC.2.2.1 (low (k + 1)) (by omega)]
    have hnb := hC.2.2.2 (low (k + 1)) (by omega)
    refine wp_go (f' := (59, [.ref 1, .int (nI (2 ^ n - 1)), .int (nI (k + 1)), .int (nI ((k + 1) &&& ((k + 1) - 1))), .int (nI (nb (low (k + 1))))], [.int (nI ((k + 1) &&& ((k + 1) - 1))), .ref 4, .int (nI (k + 1)), .ref 4], MW (upA (upA (upA A 4 (rowT (rcN nb) (k + 1) (A 4))) 5 (rowT (inN nb) (k + 1) (A 5))) 6 (rowT (pcN nb) (k + 1) (A 6))) B (upF F 3 (F 2)) sw, 0, 0)) 7 rfl ?_
    refine wp_iald rfl rfl (by omega) (by decide) ?_
    refine wp_eq (f' := (60, [.ref 1, .int (nI (2 ^ n - 1)), .int (nI (k + 1)), .int (nI ((k + 1) &&& ((k + 1) - 1))), .int (nI (nb (low (k + 1))))], [.int ((rowT (rcN nb) (k + 1) (A 4)) ((k + 1) &&& ((k + 1) - 1))), .int (nI (k + 1)), .ref 4], MW (upA (upA (upA A 4 (rowT (rcN nb) (k + 1) (A 4))) 5 (rowT (inN nb) (k + 1) (A 5))) 6 (rowT (pcN nb) (k + 1) (A 6))) B (upF F 3 (F 2)) sw, 0, 0)) rfl ?_
    rw [rowT_at (by omega)]
    refine wp_go (f' := (63, [.ref 1, .int (nI (2 ^ n - 1)), .int (nI (k + 1)), .int (nI ((k + 1) &&& ((k + 1) - 1))), .int (nI (nb (low (k + 1))))], [.int ((nI (rcN nb ((k + 1) &&& ((k + 1) - 1)))) ||| (nI (nb (low (k + 1))))), .int (nI (k + 1)), .ref 4], MW (upA (upA (upA A 4 (rowT (rcN nb) (k + 1) (A 4))) 5 (rowT (inN nb) (k + 1) (A 5))) 6 (rowT (pcN nb) (k + 1) (A 6))) B (upF F 3 (F 2)) sw, 0, 0)) 2 rfl ?_
    rw [bx_or]
    rw [← rc_s (s := k + 1) (by omega) (by omega)]
    refine wp_iast rfl rfl (by omega) (by decide) ?_
    refine wp_eq (f' := (64, [.ref 1, .int (nI (2 ^ n - 1)), .int (nI (k + 1)), .int (nI ((k + 1) &&& ((k + 1) - 1))), .int (nI (nb (low (k + 1))))], [], MW (upA (upA (upA A 5 (rowT (inN nb) (k + 1) (A 5))) 6 (rowT (pcN nb) (k + 1) (A 6))) 4 (upd (rowT (rcN nb) (k + 1) (A 4)) (k + 1) (nI (rcN nb (k + 1))))) B (upF F 3 (F 2)) sw, 0, 0)) rfl ?_
    rw [rowT_s]
    refine wp_go (f' := (74, [.ref 1, .int (nI (2 ^ n - 1)), .int (nI (k + 1)), .int (nI ((k + 1) &&& ((k + 1) - 1))), .int (nI (nb (low (k + 1))))], [.int (nI ((k + 1) &&& ((k + 1) - 1))), .ref 5, .int (nI (k + 1)), .ref 5], MW (upA (upA (upA A 5 (rowT (inN nb) (k + 1) (A 5))) 6 (rowT (pcN nb) (k + 1) (A 6))) 4 (rowT (rcN nb) (k + 1 + 1) (A 4))) B (upF F 3 (F 2)) sw, 0, 0)) 6 rfl ?_
    refine wp_iald rfl rfl (by omega) (by decide) ?_
    refine wp_eq (f' := (75, [.ref 1, .int (nI (2 ^ n - 1)), .int (nI (k + 1)), .int (nI ((k + 1) &&& ((k + 1) - 1))), .int (nI (nb (low (k + 1))))], [.int ((rowT (inN nb) (k + 1) (A 5)) ((k + 1) &&& ((k + 1) - 1))), .int (nI (k + 1)), .ref 5], MW (upA (upA (upA A 5 (rowT (inN nb) (k + 1) (A 5))) 6 (rowT (pcN nb) (k + 1) (A 6))) 4 (rowT (rcN nb) (k + 1 + 1) (A 4))) B (upF F 3 (F 2)) sw, 0, 0)) rfl ?_
    rw [rowT_at (by omega)]
    refine wp_go (f' := (79, [.ref 1, .int (nI (2 ^ n - 1)), .int (nI (k + 1)), .int (nI ((k + 1) &&& ((k + 1) - 1))), .int (nI (nb (low (k + 1))))], [.int ((nI (nb (low (k + 1)))) &&& (nI ((k + 1) &&& ((k + 1) - 1)))), .int (nI (inN nb ((k + 1) &&& ((k + 1) - 1)))), .int (nI (k + 1)), .ref 5], MW (upA (upA (upA A 5 (rowT (inN nb) (k + 1) (A 5))) 6 (rowT (pcN nb) (k + 1) (A 6))) 4 (rowT (rcN nb) (k + 1 + 1) (A 4))) B (upF F 3 (F 2)) sw, 0, 0)) 3 rfl ?_
    rw [bx_and]
    refine wp_call rfl rfl rfl (ev_up (ev_bitCount (s := (nb (low (k + 1))) &&& ((k + 1) &&& ((k + 1) - 1))) (by omega) _) (by decide)) ?_
    refine wp_eq (f' := (82, [.ref 1, .int (nI (2 ^ n - 1)), .int (nI (k + 1)), .int (nI ((k + 1) &&& ((k + 1) - 1))), .int (nI (nb (low (k + 1))))], [.int (nI (pop ((nb (low (k + 1))) &&& ((k + 1) &&& ((k + 1) - 1))))), .int (nI (inN nb ((k + 1) &&& ((k + 1) - 1)))), .int (nI (k + 1)), .ref 5], MW (upA (upA (upA A 5 (rowT (inN nb) (k + 1) (A 5))) 6 (rowT (pcN nb) (k + 1) (A 6))) 4 (rowT (rcN nb) (k + 1 + 1) (A 4))) B (upF F 3 (F 2)) sw, 0, 0)) rfl ?_
    have hpp := pop_le (s := (nb (low (k + 1))) &&& ((k + 1) &&& ((k + 1) - 1))) (by omega)
    refine wp_go (f' := (83, [.ref 1, .int (nI (2 ^ n - 1)), .int (nI (k + 1)), .int (nI ((k + 1) &&& ((k + 1) - 1))), .int (nI (nb (low (k + 1))))], [.int ((nI (inN nb ((k + 1) &&& ((k + 1) - 1)))) + (nI (pop ((nb (low (k + 1))) &&& ((k + 1) &&& ((k + 1) - 1)))))), .int (nI (k + 1)), .ref 5], MW (upA (upA (upA A 5 (rowT (inN nb) (k + 1) (A 5))) 6 (rowT (pcN nb) (k + 1) (A 6))) 4 (rowT (rcN nb) (k + 1 + 1) (A 4))) B (upF F 3 (F 2)) sw, 0, 0)) 1 rfl ?_
    rw [nI_add]
    rw [← in_s (s := k + 1) (by omega) (by omega)]
    refine wp_iast rfl rfl (by omega) (by decide) ?_
    refine wp_eq (f' := (84, [.ref 1, .int (nI (2 ^ n - 1)), .int (nI (k + 1)), .int (nI ((k + 1) &&& ((k + 1) - 1))), .int (nI (nb (low (k + 1))))], [], MW (upA (upA (upA A 6 (rowT (pcN nb) (k + 1) (A 6))) 4 (rowT (rcN nb) (k + 1 + 1) (A 4))) 5 (upd (rowT (inN nb) (k + 1) (A 5)) (k + 1) (nI (inN nb (k + 1))))) B (upF F 3 (F 2)) sw, 0, 0)) rfl ?_
    rw [rowT_s]
    refine wp_go (f' := (94, [.ref 1, .int (nI (2 ^ n - 1)), .int (nI (k + 1)), .int (nI ((k + 1) &&& ((k + 1) - 1))), .int (nI (nb (low (k + 1))))], [.int (nI (k + 1)), .ref 4, .int (nI (k + 1)), .ref 6], MW (upA (upA (upA A 6 (rowT (pcN nb) (k + 1) (A 6))) 4 (rowT (rcN nb) (k + 1 + 1) (A 4))) 5 (rowT (inN nb) (k + 1 + 1) (A 5))) B (upF F 3 (F 2)) sw, 0, 0)) 6 rfl ?_
    refine wp_call rfl rfl rfl (ev_up (ev_spread4 (g := rcN nb) (s := k + 1) (by omega) (by omega) (fun t ht => rowT_at (by omega))) (by decide)) ?_
    refine wp_eq (f' := (97, [.ref 1, .int (nI (2 ^ n - 1)), .int (nI (k + 1)), .int (nI ((k + 1) &&& ((k + 1) - 1))), .int (nI (nb (low (k + 1))))], [.int (nI (pcN nb (k + 1))), .int (nI (k + 1)), .ref 6], MW (upA (upA (upA A 6 (rowT (pcN nb) (k + 1) (A 6))) 4 (rowT (rcN nb) (k + 1 + 1) (A 4))) 5 (rowT (inN nb) (k + 1 + 1) (A 5))) B (upF F 3 (F 2)) sw, 0, 0)) rfl ?_
    refine wp_iast rfl rfl (by omega) (by decide) ?_
    refine wp_eq (f' := (98, [.ref 1, .int (nI (2 ^ n - 1)), .int (nI (k + 1)), .int (nI ((k + 1) &&& ((k + 1) - 1))), .int (nI (nb (low (k + 1))))], [], MW (upA (upA (upA A 4 (rowT (rcN nb) (k + 1 + 1) (A 4))) 5 (rowT (inN nb) (k + 1 + 1) (A 5))) 6 (upd (rowT (pcN nb) (k + 1) (A 6)) (k + 1) (nI (pcN nb (k + 1))))) B (upF F 3 (F 2)) sw, 0, 0)) rfl ?_
    rw [rowT_s]
    refine wp_go (f' := (101, [.ref 1, .int (nI (2 ^ n - 1)), .int ((nI (k + 1)) + 1), .int (nI ((k + 1) &&& ((k + 1) - 1))), .int (nI (nb (low (k + 1))))], [], MW (upA (upA (upA A 4 (rowT (rcN nb) (k + 1 + 1) (A 4))) 5 (rowT (inN nb) (k + 1 + 1) (A 5))) 6 (rowT (pcN nb) (k + 1 + 1) (A 6))) B (upF F 3 (F 2)) sw, 0, 0)) 1 rfl ?_
    rw [nI_1]
    refine wp_go (f' := (27, [.ref 1, .int (nI (2 ^ n - 1)), .int (nI ((k + 1) + 1)), .int (nI ((k + 1) &&& ((k + 1) - 1))), .int (nI (nb (low (k + 1))))], [], MW (upA (upA (upA A 4 (rowT (rcN nb) (k + 1 + 1) (A 4))) 5 (rowT (inN nb) (k + 1 + 1) (A 5))) 6 (rowT (pcN nb) (k + 1 + 1) (A 6))) B (upF F 3 (F 2)) sw, 0, 0)) 1 rfl ?_
    exact ih (.int (nI ((k + 1) &&& ((k + 1) - 1)))) (.int (nI (nb (low (k + 1)))))
  · intro d3 d4
    have e9 : 2 ^ n - 1 + 1 = 2 ^ n := by omega
    rw [e9]
    refine wp_go (f' := ((if (nI (2 ^ n - 1)) < (nI (2 ^ n)) then 104 else 32), [.ref 1, .int (nI (2 ^ n - 1)), .int (nI (2 ^ n)), d3, d4], [], MW (upA (upA (upA A 4 (rowT (rcN nb) (2 ^ n) (A 4))) 5 (rowT (inN nb) (2 ^ n) (A 5))) 6 (rowT (pcN nb) (2 ^ n) (A 6))) B (upF F 3 (F 2)) sw, 0, 0)) 3 rfl ?_
    refine wp_ite (fun _ => ?_) (fun h9 => absurd (nI_lt (by omega) (by omega)) h9)
    exact wp_vret rfl
end CC
