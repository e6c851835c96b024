section CC
variable {xs : Nat → Int32} {Ls : Nat} {A : Nat → Nat → Int32} {B : Nat → Nat → Int64} {F : Nat → Int32} {sw : Bool} {n : Nat} {nb : Nat → Nat}
theorem ev_cJoin_f (hC : CI A F n nb) (hR : RI A n nb) : mv_Ev xs Ls 3 72 [.ref 24] (MW A B F false) (some (.long ((tabN (joinC nb) n (vp_updL (B 25) 0 0)) (2 ^ n - 1))), MW A (upB B 25 (tabN (joinC nb) n (vp_updL (B 25) 0 0))) F false, 0, 0) := by
  refine ev_of_wp rfl rfl rfl ?_
  have hn := hC.1
  have hp := pow10 hn
  have hp1 : 1 ≤ 2 ^ n := Nat.one_le_two_pow
  have hal := all_lt hn
  refine wp_go (f' := (4, [.ref 24, .retAddr 0, .retAddr 0, .retAddr 0, .retAddr 0, .retAddr 0, .retAddr 0], [.ref 1], MW A B F false, 0, 0)) 2 rfl ?_
  refine wp_call rfl rfl rfl (ev_up (ev_gAll hC) (by decide)) ?_
  refine wp_eq (f' := (7, [.ref 24, .retAddr 0, .retAddr 0, .retAddr 0, .retAddr 0, .retAddr 0, .retAddr 0], [.int (nI (2 ^ n - 1))], MW A B F false, 0, 0)) rfl ?_
  refine wp_go (f' := (14, [.ref 24, .int (nI (2 ^ n - 1)), .retAddr 0, .retAddr 0, .retAddr 0, .retAddr 0, .retAddr 0], [.long 0, .int (nI 0), .ref 25], MW A B F false, 0, 0)) 5 rfl ?_
  refine wp_last rfl rfl (by omega) (by decide) ?_
  refine wp_eq (f' := (15, [.ref 24, .int (nI (2 ^ n - 1)), .retAddr 0, .retAddr 0, .retAddr 0, .retAddr 0, .retAddr 0], [], MW A (upB B 25 (vp_updL (B 25) 0 0)) F false, 0, 0)) rfl ?_
  refine wp_go (f' := (17, [.ref 24, .int (nI (2 ^ n - 1)), .int (nI 1), .retAddr 0, .retAddr 0, .retAddr 0, .retAddr 0], [], MW A (upB B 25 (vp_updL (B 25) 0 0)) F false, 0, 0)) 2 rfl ?_
  refine for_ind (P := fun (k : Nat) (f : Nat → Int64) => ∀ e3 : Value, ∀ e4 : Value, ∀ e5 : Value, ∀ e6 : Value, mv_Wp xs Ls 2 0 false (some .long) mv_c72 (17, [.ref 24, .int (nI (2 ^ n - 1)), .int (nI (k + 1)), e3, e4, e5, e6], [], MW A (upB B 25 f) F false, 0, 0) (some (.long ((tabN (joinC nb) n (vp_updL (B 25) 0 0)) (2 ^ n - 1))), MW A (upB B 25 (tabN (joinC nb) n (vp_updL (B 25) 0 0))) F false, 0, 0)) (f := fun k f => vp_updL f (k + 1) (joinC nb f (k + 1))) (n := 2 ^ n - 1) ?_ (2 ^ n - 1) (vp_updL (B 25) 0 0) (Nat.le_refl _) ?_ _ _ _ _
  · intro k f hk ih e3 e4 e5 e6
    refine wp_go (f' := ((if (nI (2 ^ n - 1)) < (nI (k + 1)) then 101 else 22), [.ref 24, .int (nI (2 ^ n - 1)), .int (nI (k + 1)), e3, e4, e5, e6], [], MW A (upB B 25 f) F false, 0, 0)) 3 rfl ?_
    refine wp_ite (fun h9 => absurd h9 (nI_nlt (by omega) (by omega))) (fun _ => ?_)
    refine wp_go (f' := (26, [.ref 24, .int (nI (2 ^ n - 1)), .int (nI (k + 1)), e3, e4, e5, e6], [.int ((nI (k + 1)) - (nI 1)), .int (nI (k + 1))], MW A (upB B 25 f) F false, 0, 0)) 4 rfl ?_
    rw [pk_sub (by omega)]
    refine wp_go (f' := (27, [.ref 24, .int (nI (2 ^ n - 1)), .int (nI (k + 1)), e3, e4, e5, e6], [.int ((nI (k + 1)) &&& (nI ((k + 1) - 1)))], MW A (upB B 25 f) F false, 0, 0)) 1 rfl ?_
    rw [bx_and]
    have hb1 : (k + 1) &&& ((k + 1) - 1) < 1024 := by first | omega | exact or_lt (by omega) (by omega) | exact and_lt (by omega) | exact and_lt_r (by omega) | exact sd_lt (by omega) | exact pow_lt (by omega)
    refine wp_go (f' := (37, [.ref 24, .int (nI (2 ^ n - 1)), .int (nI (k + 1)), .int (nI ((k + 1) &&& ((k + 1) - 1))), e4, e5, e6], [.int (nI (k + 1)), .ref 5, .long 1], MW A (upB B 25 f) F false, 0, 0)) 6 rfl ?_
    refine wp_iald rfl rfl (by omega) (by decide) ?_
    refine wp_eq (f' := (38, [.ref 24, .int (nI (2 ^ n - 1)), .int (nI (k + 1)), .int (nI ((k + 1) &&& ((k + 1) - 1))), e4, e5, e6], [.int ((A 5) (k + 1)), .long 1], MW A (upB B 25 f) F false, 0, 0)) rfl ?_
    rw [(hR (k + 1) (by omega)).2.1]
    refine wp_go (f' := (44, [.ref 24, .int (nI (2 ^ n - 1)), .int (nI (k + 1)), .int (nI ((k + 1) &&& ((k + 1) - 1))), .long (1 <<< ((nI (inN nb (k + 1))).toInt64 &&& 63)), .retAddr 0, .int (nI ((k + 1) &&& ((k + 1) - 1)))], [], MW A (upB B 25 f) F false, 0, 0)) 4 rfl ?_
    refine sub_ind (P := fun (t : Nat) (a : Int64) => (t ≤ k + 1) → mv_Wp xs Ls 2 0 false (some .long) mv_c72 (44, [.ref 24, .int (nI (2 ^ n - 1)), .int (nI (k + 1)), .int (nI ((k + 1) &&& ((k + 1) - 1))), .long a, .retAddr 0, .int (nI t)], [], MW A (upB B 25 f) F false, 0, 0) (some (.long ((tabN (joinC nb) n (vp_updL (B 25) 0 0)) (2 ^ n - 1))), MW A (upB B 25 (tabN (joinC nb) n (vp_updL (B 25) 0 0))) F false, 0, 0)) (f := fun t a => a - f (sd (k + 1) t) <<< ((nI (inN nb t)).toInt64 &&& 63)) (s := (k + 1) &&& ((k + 1) - 1)) ?_ ((k + 1) &&& ((k + 1) - 1)) (1 <<< ((nI (inN nb (k + 1))).toInt64 &&& 63)) (by omega) ?_ (by have h7 : (k + 1) &&& (k + 1 - 1) ≤ k + 1 - 1 := Nat.and_le_right; omega)
    · intro t a ht ht0 ih3 hin
      have htm : (t - 1) &&& ((k + 1) &&& ((k + 1) - 1)) ≤ t - 1 := Nat.and_le_left
      refine wp_go (f' := ((if (nI t) = 0 then 87 else 49), [.ref 24, .int (nI (2 ^ n - 1)), .int (nI (k + 1)), .int (nI ((k + 1) &&& ((k + 1) - 1))), .long a, .retAddr 0, .int (nI t)], [], MW A (upB B 25 f) F false, 0, 0)) 2 rfl ?_
      refine wp_ite (fun h9 => absurd h9 (fun h8 => ht0 ((nI_eq (a := t) (b := 0) (by omega) (by omega)).mp h8))) (fun _ => ?_)
      refine wp_go (f' := (61, [.ref 24, .int (nI (2 ^ n - 1)), .int (nI (k + 1)), .int (nI ((k + 1) &&& ((k + 1) - 1))), .long a, .retAddr 0, .int (nI t)], [.int ((nI (k + 1)) &&& ((nI t) ^^^ (-1))), .ref 25, .long a], MW A (upB B 25 f) F false, 0, 0)) 8 rfl ?_
      rw [bx_sd (by omega)]
      have hb1 : sd (k + 1) t < 1024 := by first | omega | exact or_lt (by omega) (by omega) | exact and_lt (by omega) | exact and_lt_r (by omega) | exact sd_lt (by omega) | exact pow_lt (by omega)
      refine wp_lald rfl rfl (by omega) (by decide) ?_
      refine wp_eq (f' := (62, [.ref 24, .int (nI (2 ^ n - 1)), .int (nI (k + 1)), .int (nI ((k + 1) &&& ((k + 1) - 1))), .long a, .retAddr 0, .int (nI t)], [.long (f (sd (k + 1) t)), .long a], MW A (upB B 25 f) F false, 0, 0)) rfl ?_
      refine wp_go (f' := (71, [.ref 24, .int (nI (2 ^ n - 1)), .int (nI (k + 1)), .int (nI ((k + 1) &&& ((k + 1) - 1))), .long a, .retAddr 0, .int (nI t)], [.int (nI t), .ref 5, .long (f (sd (k + 1) t)), .long a], MW A (upB B 25 f) F false, 0, 0)) 4 rfl ?_
      refine wp_iald rfl rfl (by omega) (by decide) ?_
      refine wp_eq (f' := (72, [.ref 24, .int (nI (2 ^ n - 1)), .int (nI (k + 1)), .int (nI ((k + 1) &&& ((k + 1) - 1))), .long a, .retAddr 0, .int (nI t)], [.int ((A 5) t), .long (f (sd (k + 1) t)), .long a], MW A (upB B 25 f) F false, 0, 0)) rfl ?_
      rw [(hR t (by omega)).2.1]
      refine wp_go (f' := (80, [.ref 24, .int (nI (2 ^ n - 1)), .int (nI (k + 1)), .int (nI ((k + 1) &&& ((k + 1) - 1))), .long (a - ((f (sd (k + 1) t)) <<< ((nI (inN nb t)).toInt64 &&& 63))), .retAddr 0, .int (nI t)], [.int ((nI t) - (nI 1))], MW A (upB B 25 f) F false, 0, 0)) 6 rfl ?_
      rw [pk_sub (by omega)]
      refine wp_go (f' := (82, [.ref 24, .int (nI (2 ^ n - 1)), .int (nI (k + 1)), .int (nI ((k + 1) &&& ((k + 1) - 1))), .long (a - ((f (sd (k + 1) t)) <<< ((nI (inN nb t)).toInt64 &&& 63))), .retAddr 0, .int (nI t)], [.int ((nI (t - 1)) &&& (nI ((k + 1) &&& ((k + 1) - 1))))], MW A (upB B 25 f) F false, 0, 0)) 2 rfl ?_
      rw [bx_and]
      have hb2 : (t - 1) &&& ((k + 1) &&& ((k + 1) - 1)) < 1024 := by first | omega | exact or_lt (by omega) (by omega) | exact and_lt (by omega) | exact and_lt_r (by omega) | exact sd_lt (by omega) | exact pow_lt (by omega)
      refine wp_go (f' := (44, [.ref 24, .int (nI (2 ^ n - 1)), .int (nI (k + 1)), .int (nI ((k + 1) &&& ((k + 1) - 1))), .long (a - ((f (sd (k + 1) t)) <<< ((nI (inN nb t)).toInt64 &&& 63))), .retAddr 0, .int (nI ((t - 1) &&& ((k + 1) &&& ((k + 1) - 1))))], [], MW A (upB B 25 f) F false, 0, 0)) 2 rfl ?_
      refine wp_eq ?_ (ih3 (by omega))
      first | rfl | simp []
    · intro hin
      refine wp_go (f' := ((if (nI 0) = 0 then 87 else 49), [.ref 24, .int (nI (2 ^ n - 1)), .int (nI (k + 1)), .int (nI ((k + 1) &&& ((k + 1) - 1))), .long (joinC nb f (k + 1)), .retAddr 0, .int (nI 0)], [], MW A (upB B 25 f) F false, 0, 0)) 2 rfl ?_
      refine wp_ite (fun _ => ?_) (fun h9 => absurd rfl h9)
      refine wp_go (f' := (94, [.ref 24, .int (nI (2 ^ n - 1)), .int (nI (k + 1)), .int (nI ((k + 1) &&& ((k + 1) - 1))), .long (joinC nb f (k + 1)), .retAddr 0, .int (nI 0)], [.long (joinC nb f (k + 1)), .int (nI (k + 1)), .ref 25], MW A (upB B 25 f) F false, 0, 0)) 4 rfl ?_
      refine wp_last rfl rfl (by omega) (by decide) ?_
      refine wp_eq (f' := (95, [.ref 24, .int (nI (2 ^ n - 1)), .int (nI (k + 1)), .int (nI ((k + 1) &&& ((k + 1) - 1))), .long (joinC nb f (k + 1)), .retAddr 0, .int (nI 0)], [], MW A (upB B 25 (vp_updL f (k + 1) (joinC nb f (k + 1)))) F false, 0, 0)) rfl ?_
      refine wp_go (f' := (98, [.ref 24, .int (nI (2 ^ n - 1)), .int ((nI (k + 1)) + 1), .int (nI ((k + 1) &&& ((k + 1) - 1))), .long (joinC nb f (k + 1)), .retAddr 0, .int (nI 0)], [], MW A (upB B 25 (vp_updL f (k + 1) (joinC nb f (k + 1)))) F false, 0, 0)) 1 rfl ?_
      rw [nI_1]
      refine wp_go (f' := (17, [.ref 24, .int (nI (2 ^ n - 1)), .int (nI ((k + 1) + 1)), .int (nI ((k + 1) &&& ((k + 1) - 1))), .long (joinC nb f (k + 1)), .retAddr 0, .int (nI 0)], [], MW A (upB B 25 (vp_updL f (k + 1) (joinC nb f (k + 1)))) F false, 0, 0)) 1 rfl ?_
      exact ih (.int (nI ((k + 1) &&& ((k + 1) - 1)))) (.long (joinC nb f (k + 1))) (.retAddr 0) (.int (nI 0))
  · intro e3 e4 e5 e6
    refine wp_go (f' := ((if (nI (2 ^ n - 1)) < (nI (2 ^ n - 1 + 1)) then 101 else 22), [.ref 24, .int (nI (2 ^ n - 1)), .int (nI (2 ^ n - 1 + 1)), e3, e4, e5, e6], [], MW A (upB B 25 (tabN (joinC nb) n (vp_updL (B 25) 0 0))) F false, 0, 0)) 3 rfl ?_
    refine wp_ite (fun _ => ?_) (fun h9 => absurd (nI_lt (by omega) (by omega)) h9)
    refine wp_go (f' := (106, [.ref 24, .int (nI (2 ^ n - 1)), .int (nI (2 ^ n - 1 + 1)), e3, e4, e5, e6], [.int (nI (2 ^ n - 1)), .ref 25], MW A (upB B 25 (tabN (joinC nb) n (vp_updL (B 25) 0 0))) F false, 0, 0)) 3 rfl ?_
    refine wp_lald rfl rfl (by omega) (by decide) ?_
    refine wp_eq (f' := (107, [.ref 24, .int (nI (2 ^ n - 1)), .int (nI (2 ^ n - 1 + 1)), e3, e4, e5, e6], [.long ((tabN (joinC nb) n (vp_updL (B 25) 0 0)) (2 ^ n - 1))], MW A (upB B 25 (tabN (joinC nb) n (vp_updL (B 25) 0 0))) F false, 0, 0)) rfl ?_
    exact wp_lret rfl
theorem ev_cJoin_t (hC : CI A F n nb) (hR : RI A n nb) : mv_Ev xs Ls 3 72 [.ref 24] (MW A B F true) (some (.long ((tabN (joinC nb) n (vp_updL (B 25) 0 0)) (2 ^ n - 1))), MW A (upB B 25 (tabN (joinC nb) n (vp_updL (B 25) 0 0))) F true, 0, 0) := by
  refine ev_of_wp rfl rfl rfl ?_
  have hn := hC.1
  have hp := pow10 hn
  have hp1 : 1 ≤ 2 ^ n := Nat.one_le_two_pow
  have hal := all_lt hn
  refine wp_go (f' := (4, [.ref 24, .retAddr 0, .retAddr 0, .retAddr 0, .retAddr 0, .retAddr 0, .retAddr 0], [.ref 1], MW A B F true, 0, 0)) 2 rfl ?_
  refine wp_call rfl rfl rfl (ev_up (ev_gAll hC) (by decide)) ?_
  refine wp_eq (f' := (7, [.ref 24, .retAddr 0, .retAddr 0, .retAddr 0, .retAddr 0, .retAddr 0, .retAddr 0], [.int (nI (2 ^ n - 1))], MW A B F true, 0, 0)) rfl ?_
  refine wp_go (f' := (14, [.ref 24, .int (nI (2 ^ n - 1)), .retAddr 0, .retAddr 0, .retAddr 0, .retAddr 0, .retAddr 0], [.long 0, .int (nI 0), .ref 26], MW A B F true, 0, 0)) 5 rfl ?_
  refine wp_last rfl rfl (by omega) (by decide) ?_
  refine wp_eq (f' := (15, [.ref 24, .int (nI (2 ^ n - 1)), .retAddr 0, .retAddr 0, .retAddr 0, .retAddr 0, .retAddr 0], [], MW A (upB B 25 (vp_updL (B 25) 0 0)) F true, 0, 0)) rfl ?_
  refine wp_go (f' := (17, [.ref 24, .int (nI (2 ^ n - 1)), .int (nI 1), .retAddr 0, .retAddr 0, .retAddr 0, .retAddr 0], [], MW A (upB B 25 (vp_updL (B 25) 0 0)) F true, 0, 0)) 2 rfl ?_
  refine for_ind (P := fun (k : Nat) (f : Nat → Int64) => ∀ e3 : Value, ∀ e4 : Value, ∀ e5 : Value, ∀ e6 : Value, mv_Wp xs Ls 2 0 false (some .long) mv_c72 (17, [.ref 24, .int (nI (2 ^ n - 1)), .int (nI (k + 1)), e3, e4, e5, e6], [], MW A (upB B 25 f) F true, 0, 0) (some (.long ((tabN (joinC nb) n (vp_updL (B 25) 0 0)) (2 ^ n - 1))), MW A (upB B 25 (tabN (joinC nb) n (vp_updL (B 25) 0 0))) F true, 0, 0)) (f := fun k f => vp_updL f (k + 1) (joinC nb f (k + 1))) (n := 2 ^ n - 1) ?_ (2 ^ n - 1) (vp_updL (B 25) 0 0) (Nat.le_refl _) ?_ _ _ _ _
  · intro k f hk ih e3 e4 e5 e6
    refine wp_go (f' := ((if (nI (2 ^ n - 1)) < (nI (k + 1)) then 101 else 22), [.ref 24, .int (nI (2 ^ n - 1)), .int (nI (k + 1)), e3, e4, e5, e6], [], MW A (upB B 25 f) F true, 0, 0)) 3 rfl ?_
    refine wp_ite (fun h9 => absurd h9 (nI_nlt (by omega) (by omega))) (fun _ => ?_)
    refine wp_go (f' := (26, [.ref 24, .int (nI (2 ^ n - 1)), .int (nI (k + 1)), e3, e4, e5, e6], [.int ((nI (k + 1)) - (nI 1)), .int (nI (k + 1))], MW A (upB B 25 f) F true, 0, 0)) 4 rfl ?_
    rw [pk_sub (by omega)]
    refine wp_go (f' := (27, [.ref 24, .int (nI (2 ^ n - 1)), .int (nI (k + 1)), e3, e4, e5, e6], [.int ((nI (k + 1)) &&& (nI ((k + 1) - 1)))], MW A (upB B 25 f) F true, 0, 0)) 1 rfl ?_
    rw [bx_and]
    have hb1 : (k + 1) &&& ((k + 1) - 1) < 1024 := by first | omega | exact or_lt (by omega) (by omega) | exact and_lt (by omega) | exact and_lt_r (by omega) | exact sd_lt (by omega) | exact pow_lt (by omega)
    refine wp_go (f' := (37, [.ref 24, .int (nI (2 ^ n - 1)), .int (nI (k + 1)), .int (nI ((k + 1) &&& ((k + 1) - 1))), e4, e5, e6], [.int (nI (k + 1)), .ref 5, .long 1], MW A (upB B 25 f) F true, 0, 0)) 6 rfl ?_
    refine wp_iald rfl rfl (by omega) (by decide) ?_
    refine wp_eq (f' := (38, [.ref 24, .int (nI (2 ^ n - 1)), .int (nI (k + 1)), .int (nI ((k + 1) &&& ((k + 1) - 1))), e4, e5, e6], [.int ((A 5) (k + 1)), .long 1], MW A (upB B 25 f) F true, 0, 0)) rfl ?_
    rw [(hR (k + 1) (by omega)).2.1]
    refine wp_go (f' := (44, [.ref 24, .int (nI (2 ^ n - 1)), .int (nI (k + 1)), .int (nI ((k + 1) &&& ((k + 1) - 1))), .long (1 <<< ((nI (inN nb (k + 1))).toInt64 &&& 63)), .retAddr 0, .int (nI ((k + 1) &&& ((k + 1) - 1)))], [], MW A (upB B 25 f) F true, 0, 0)) 4 rfl ?_
    refine sub_ind (P := fun (t : Nat) (a : Int64) => (t ≤ k + 1) → mv_Wp xs Ls 2 0 false (some .long) mv_c72 (44, [.ref 24, .int (nI (2 ^ n - 1)), .int (nI (k + 1)), .int (nI ((k + 1) &&& ((k + 1) - 1))), .long a, .retAddr 0, .int (nI t)], [], MW A (upB B 25 f) F true, 0, 0) (some (.long ((tabN (joinC nb) n (vp_updL (B 25) 0 0)) (2 ^ n - 1))), MW A (upB B 25 (tabN (joinC nb) n (vp_updL (B 25) 0 0))) F true, 0, 0)) (f := fun t a => a - f (sd (k + 1) t) <<< ((nI (inN nb t)).toInt64 &&& 63)) (s := (k + 1) &&& ((k + 1) - 1)) ?_ ((k + 1) &&& ((k + 1) - 1)) (1 <<< ((nI (inN nb (k + 1))).toInt64 &&& 63)) (by omega) ?_ (by have h7 : (k + 1) &&& (k + 1 - 1) ≤ k + 1 - 1 := Nat.and_le_right; omega)
    · intro t a ht ht0 ih3 hin
      have htm : (t - 1) &&& ((k + 1) &&& ((k + 1) - 1)) ≤ t - 1 := Nat.and_le_left
      refine wp_go (f' := ((if (nI t) = 0 then 87 else 49), [.ref 24, .int (nI (2 ^ n - 1)), .int (nI (k + 1)), .int (nI ((k + 1) &&& ((k + 1) - 1))), .long a, .retAddr 0, .int (nI t)], [], MW A (upB B 25 f) F true, 0, 0)) 2 rfl ?_
      refine wp_ite (fun h9 => absurd h9 (fun h8 => ht0 ((nI_eq (a := t) (b := 0) (by omega) (by omega)).mp h8))) (fun _ => ?_)
      refine wp_go (f' := (61, [.ref 24, .int (nI (2 ^ n - 1)), .int (nI (k + 1)), .int (nI ((k + 1) &&& ((k + 1) - 1))), .long a, .retAddr 0, .int (nI t)], [.int ((nI (k + 1)) &&& ((nI t) ^^^ (-1))), .ref 26, .long a], MW A (upB B 25 f) F true, 0, 0)) 8 rfl ?_
      rw [bx_sd (by omega)]
      have hb1 : sd (k + 1) t < 1024 := by first | omega | exact or_lt (by omega) (by omega) | exact and_lt (by omega) | exact and_lt_r (by omega) | exact sd_lt (by omega) | exact pow_lt (by omega)
      refine wp_lald rfl rfl (by omega) (by decide) ?_
      refine wp_eq (f' := (62, [.ref 24, .int (nI (2 ^ n - 1)), .int (nI (k + 1)), .int (nI ((k + 1) &&& ((k + 1) - 1))), .long a, .retAddr 0, .int (nI t)], [.long (f (sd (k + 1) t)), .long a], MW A (upB B 25 f) F true, 0, 0)) rfl ?_
      refine wp_go (f' := (71, [.ref 24, .int (nI (2 ^ n - 1)), .int (nI (k + 1)), .int (nI ((k + 1) &&& ((k + 1) - 1))), .long a, .retAddr 0, .int (nI t)], [.int (nI t), .ref 5, .long (f (sd (k + 1) t)), .long a], MW A (upB B 25 f) F true, 0, 0)) 4 rfl ?_
      refine wp_iald rfl rfl (by omega) (by decide) ?_
      refine wp_eq (f' := (72, [.ref 24, .int (nI (2 ^ n - 1)), .int (nI (k + 1)), .int (nI ((k + 1) &&& ((k + 1) - 1))), .long a, .retAddr 0, .int (nI t)], [.int ((A 5) t), .long (f (sd (k + 1) t)), .long a], MW A (upB B 25 f) F true, 0, 0)) rfl ?_
      rw [(hR t (by omega)).2.1]
      refine wp_go (f' := (80, [.ref 24, .int (nI (2 ^ n - 1)), .int (nI (k + 1)), .int (nI ((k + 1) &&& ((k + 1) - 1))), .long (a - ((f (sd (k + 1) t)) <<< ((nI (inN nb t)).toInt64 &&& 63))), .retAddr 0, .int (nI t)], [.int ((nI t) - (nI 1))], MW A (upB B 25 f) F true, 0, 0)) 6 rfl ?_
      rw [pk_sub (by omega)]
      refine wp_go (f' := (82, [.ref 24, .int (nI (2 ^ n - 1)), .int (nI (k + 1)), .int (nI ((k + 1) &&& ((k + 1) - 1))), .long (a - ((f (sd (k + 1) t)) <<< ((nI (inN nb t)).toInt64 &&& 63))), .retAddr 0, .int (nI t)], [.int ((nI (t - 1)) &&& (nI ((k + 1) &&& ((k + 1) - 1))))], MW A (upB B 25 f) F true, 0, 0)) 2 rfl ?_
      rw [bx_and]
      have hb2 : (t - 1) &&& ((k + 1) &&& ((k + 1) - 1)) < 1024 := by first | omega | exact or_lt (by omega) (by omega) | exact and_lt (by omega) | exact and_lt_r (by omega) | exact sd_lt (by omega) | exact pow_lt (by omega)
      refine wp_go (f' := (44, [.ref 24, .int (nI (2 ^ n - 1)), .int (nI (k + 1)), .int (nI ((k + 1) &&& ((k + 1) - 1))), .long (a - ((f (sd (k + 1) t)) <<< ((nI (inN nb t)).toInt64 &&& 63))), .retAddr 0, .int (nI ((t - 1) &&& ((k + 1) &&& ((k + 1) - 1))))], [], MW A (upB B 25 f) F true, 0, 0)) 2 rfl ?_
      refine wp_eq ?_ (ih3 (by omega))
      first | rfl | simp []
    · intro hin
      refine wp_go (f' := ((if (nI 0) = 0 then 87 else 49), [.ref 24, .int (nI (2 ^ n - 1)), .int (nI (k + 1)), .int (nI ((k + 1) &&& ((k + 1) - 1))), .long (joinC nb f (k + 1)), .retAddr 0, .int (nI 0)], [], MW A (upB B 25 f) F true, 0, 0)) 2 rfl ?_
      refine wp_ite (fun _ => ?_) (fun h9 => absurd rfl h9)
      refine wp_go (f' := (94, [.ref 24, .int (nI (2 ^ n - 1)), .int (nI (k + 1)), .int (nI ((k + 1) &&& ((k + 1) - 1))), .long (joinC nb f (k + 1)), .retAddr 0, .int (nI 0)], [.long (joinC nb f (k + 1)), .int (nI (k + 1)), .ref 26], MW A (upB B 25 f) F true, 0, 0)) 4 rfl ?_
      refine wp_last rfl rfl (by omega) (by decide) ?_
      refine wp_eq (f' := (95, [.ref 24, .int (nI (2 ^ n - 1)), .int (nI (k + 1)), .int (nI ((k + 1) &&& ((k + 1) - 1))), .long (joinC nb f (k + 1)), .retAddr 0, .int (nI 0)], [], MW A (upB B 25 (vp_updL f (k + 1) (joinC nb f (k + 1)))) F true, 0, 0)) rfl ?_
      refine wp_go (f' := (98, [.ref 24, .int (nI (2 ^ n - 1)), .int ((nI (k + 1)) + 1), .int (nI ((k + 1) &&& ((k + 1) - 1))), .long (joinC nb f (k + 1)), .retAddr 0, .int (nI 0)], [], MW A (upB B 25 (vp_updL f (k + 1) (joinC nb f (k + 1)))) F true, 0, 0)) 1 rfl ?_
      rw [nI_1]
      refine wp_go (f' := (17, [.ref 24, .int (nI (2 ^ n - 1)), .int (nI ((k + 1) + 1)), .int (nI ((k + 1) &&& ((k + 1) - 1))), .long (joinC nb f (k + 1)), .retAddr 0, .int (nI 0)], [], MW A (upB B 25 (vp_updL f (k + 1) (joinC nb f (k + 1)))) F true, 0, 0)) 1 rfl ?_
      exact ih (.int (nI ((k + 1) &&& ((k + 1) - 1)))) (.long (joinC nb f (k + 1))) (.retAddr 0) (.int (nI 0))
  · intro e3 e4 e5 e6
    refine wp_go (f' := ((if (nI (2 ^ n - 1)) < (nI (2 ^ n - 1 + 1)) then 101 else 22), [.ref 24, .int (nI (2 ^ n - 1)), .int (nI (2 ^ n - 1 + 1)), e3, e4, e5, e6], [], MW A (upB B 25 (tabN (joinC nb) n (vp_updL (B 25) 0 0))) F true, 0, 0)) 3 rfl ?_
    refine wp_ite (fun _ => ?_) (fun h9 => absurd (nI_lt (by omega) (by omega)) h9)
    refine wp_go (f' := (106, [.ref 24, .int (nI (2 ^ n - 1)), .int (nI (2 ^ n - 1 + 1)), e3, e4, e5, e6], [.int (nI (2 ^ n - 1)), .ref 26], MW A (upB B 25 (tabN (joinC nb) n (vp_updL (B 25) 0 0))) F true, 0, 0)) 3 rfl ?_
    refine wp_lald rfl rfl (by omega) (by decide) ?_
    refine wp_eq (f' := (107, [.ref 24, .int (nI (2 ^ n - 1)), .int (nI (2 ^ n - 1 + 1)), e3, e4, e5, e6], [.long ((tabN (joinC nb) n (vp_updL (B 25) 0 0)) (2 ^ n - 1))], MW A (upB B 25 (tabN (joinC nb) n (vp_updL (B 25) 0 0))) F true, 0, 0)) rfl ?_
    exact wp_lret rfl
theorem ev_cJoin (hC : CI A F n nb) (hR : RI A n nb) : mv_Ev xs Ls 3 72 [.ref 24] (MW A B F sw) (some (.long ((tabN (joinC nb) n (vp_updL (B 25) 0 0)) (2 ^ n - 1))), MW A (upB B 25 (tabN (joinC nb) n (vp_updL (B 25) 0 0))) F sw, 0, 0) := by
  cases sw
  · exact ev_cJoin_f hC hR
  · exact ev_cJoin_t hC hR
theorem ev_cTreesOn_f (hC : CI A F n nb) (hR : RI A n nb) {s : Nat} (hs : s < 2 ^ n) (hs0 : ¬ s = 0) : mv_Ev xs Ls 3 70 [.ref 24, .int (nI s)] (MW A B F false) (some (.long (treeC nb (B 25) s)), MW A B F false, 0, 0) := by
  refine ev_of_wp rfl rfl rfl ?_
  have hn := hC.1
  have hp := pow10 hn
  have hp1 : 1 ≤ 2 ^ n := Nat.one_le_two_pow
  have hal := all_lt hn
  have hrl : s &&& (s - 1) < 1024 := and_lt (by omega)
  refine wp_go (f' := (4, [.ref 24, .int (nI s), .retAddr 0, .retAddr 0, .retAddr 0, .retAddr 0, .retAddr 0, .retAddr 0, .retAddr 0, .retAddr 0], [.int ((nI s) - (nI 1)), .int (nI s)], MW A B F false, 0, 0)) 4 rfl ?_
  rw [pk_sub (by omega)]
  refine wp_go (f' := (5, [.ref 24, .int (nI s), .retAddr 0, .retAddr 0, .retAddr 0, .retAddr 0, .retAddr 0, .retAddr 0, .retAddr 0, .retAddr 0], [.int ((nI s) &&& (nI (s - 1)))], MW A B F false, 0, 0)) 1 rfl ?_
  rw [bx_and]
  refine wp_go (f' := ((if ¬ (nI (s &&& (s - 1))) = 0 then 12 else 10), [.ref 24, .int (nI s), .int (nI (s &&& (s - 1))), .retAddr 0, .retAddr 0, .retAddr 0, .retAddr 0, .retAddr 0, .retAddr 0, .retAddr 0], [], MW A B F false, 0, 0)) 3 rfl ?_
  refine wp_ite (fun hne => ?_) (fun hne => ?_)
  · have hr0 : ¬ s &&& (s - 1) = 0 := fun h9 => hne ((nI_eq (a := s &&& (s - 1)) (b := 0) (by omega) (by omega)).mpr h9)
    have hl2 := low_lt hrl hr0
    have hse : 2 ^ low (s &&& (s - 1)) < 1024 := pow_lt hl2
    refine wp_go (f' := (20, [.ref 24, .int (nI s), .int (nI (s &&& (s - 1))), .retAddr 0, .retAddr 0, .retAddr 0, .retAddr 0, .retAddr 0, .retAddr 0, .retAddr 0], [.int (nI s), .ref 2], MW A B F false, 0, 0)) 4 rfl ?_
    refine wp_call rfl rfl rfl (ev_up (ev_low (s := s) (by omega) (by omega) _) (by decide)) ?_
    refine wp_eq (f' := (23, [.ref 24, .int (nI s), .int (nI (s &&& (s - 1))), .retAddr 0, .retAddr 0, .retAddr 0, .retAddr 0, .retAddr 0, .retAddr 0, .retAddr 0], [.int (nI (low s)), .ref 2], MW A B F false, 0, 0)) rfl ?_
    have hlw := low_lt (s := s) (by omega) (by omega)
    refine wp_iald rfl rfl (by omega) (by decide) ?_
    rw [hC.2.2.1 (low s) (by omega)]
    have hnb := hC.2.2.2 (low s) (by omega)
    refine wp_go (f' := (29, [.ref 24, .int (nI s), .int (nI (s &&& (s - 1))), .int (nI (nb (low s))), .retAddr 0, .retAddr 0, .retAddr 0, .retAddr 0, .retAddr 0, .retAddr 0], [.int ((nI (s &&& (s - 1))) &&& (-(nI (s &&& (s - 1)))))], MW A B F false, 0, 0)) 5 rfl ?_
    rw [bx_low (by omega) (by omega)]
    have hb1 : 2 ^ low (s &&& (s - 1)) < 1024 := by first | omega | exact or_lt (by omega) (by omega) | exact and_lt (by omega) | exact and_lt_r (by omega) | exact sd_lt (by omega) | exact pow_lt (by omega)
    refine wp_go (f' := (37, [.ref 24, .int (nI s), .int (nI (s &&& (s - 1))), .int (nI (nb (low s))), .int (nI (2 ^ low (s &&& (s - 1)))), .retAddr 0, .retAddr 0, .retAddr 0, .retAddr 0, .retAddr 0], [.int ((nI (s &&& (s - 1))) &&& ((nI (2 ^ low (s &&& (s - 1)))) ^^^ (-1)))], MW A B F false, 0, 0)) 6 rfl ?_
    rw [bx_sd (by omega)]
    have hb2 : sd (s &&& (s - 1)) (2 ^ low (s &&& (s - 1))) < 1024 := by first | omega | exact or_lt (by omega) (by omega) | exact and_lt (by omega) | exact and_lt_r (by omega) | exact sd_lt (by omega) | exact pow_lt (by omega)
    refine wp_go (f' := (46, [.ref 24, .int (nI s), .int (nI (s &&& (s - 1))), .int (nI (nb (low s))), .int (nI (2 ^ low (s &&& (s - 1)))), .int (nI (sd (s &&& (s - 1)) (2 ^ low (s &&& (s - 1))))), .long 0, .retAddr 0, .int (nI (sd (s &&& (s - 1)) (2 ^ low (s &&& (s - 1))))), .retAddr 0], [], MW A B F false, 0, 0)) 5 rfl ?_
    refine sub_ind (P := fun (t : Nat) (a : Int64) => ∀ e9 : Value, mv_Wp xs Ls 2 0 false (some .long) mv_c70 (46, [.ref 24, .int (nI s), .int (nI (s &&& (s - 1))), .int (nI (nb (low s))), .int (nI (2 ^ low (s &&& (s - 1)))), .int (nI (sd (s &&& (s - 1)) (2 ^ low (s &&& (s - 1))))), .long a, .retAddr 0, .int (nI t), e9], [], MW A B F false, 0, 0) (some (.long (treeC nb (B 25) s)), MW A B F false, 0, 0)) (f := limbC nb (B 25) s) (s := sd (s &&& (s - 1)) (2 ^ low (s &&& (s - 1)))) ?_ (sd (s &&& (s - 1)) (2 ^ low (s &&& (s - 1)))) 0 (by omega) ?_ _
    · intro t a ht ht0 ih3 e9
      have htm : (t - 1) &&& (sd (s &&& (s - 1)) (2 ^ low (s &&& (s - 1)))) ≤ t - 1 := Nat.and_le_left
      refine wp_go (f' := ((if (nI t) < 0 then 124 else 51), [.ref 24, .int (nI s), .int (nI (s &&& (s - 1))), .int (nI (nb (low s))), .int (nI (2 ^ low (s &&& (s - 1)))), .int (nI (sd (s &&& (s - 1)) (2 ^ low (s &&& (s - 1))))), .long a, .retAddr 0, .int (nI t), e9], [], MW A B F false, 0, 0)) 2 rfl ?_
      refine wp_ite (fun h9 => absurd h9 (ne_m1 ht)) (fun _ => ?_)
      refine wp_go (f' := (56, [.ref 24, .int (nI s), .int (nI (s &&& (s - 1))), .int (nI (nb (low s))), .int (nI (2 ^ low (s &&& (s - 1)))), .int (nI (sd (s &&& (s - 1)) (2 ^ low (s &&& (s - 1))))), .long a, .retAddr 0, .int (nI t), e9], [.int ((nI (2 ^ low (s &&& (s - 1)))) ||| (nI t))], MW A B F false, 0, 0)) 3 rfl ?_
      rw [bx_or]
      have hb1 : (2 ^ low (s &&& (s - 1))) ||| t < 1024 := by first | omega | exact or_lt (by omega) (by omega) | exact and_lt (by omega) | exact and_lt_r (by omega) | exact sd_lt (by omega) | exact pow_lt (by omega)
      refine wp_go (f' := (64, [.ref 24, .int (nI s), .int (nI (s &&& (s - 1))), .int (nI (nb (low s))), .int (nI (2 ^ low (s &&& (s - 1)))), .int (nI (sd (s &&& (s - 1)) (2 ^ low (s &&& (s - 1))))), .long a, .retAddr 0, .int (nI t), .int (nI ((2 ^ low (s &&& (s - 1))) ||| t))], [.int (nI ((2 ^ low (s &&& (s - 1))) ||| t)), .ref 25], MW A B F false, 0, 0)) 4 rfl ?_
      refine wp_lald rfl rfl (by omega) (by decide) ?_
      refine wp_eq (f' := (65, [.ref 24, .int (nI s), .int (nI (s &&& (s - 1))), .int (nI (nb (low s))), .int (nI (2 ^ low (s &&& (s - 1)))), .int (nI (sd (s &&& (s - 1)) (2 ^ low (s &&& (s - 1))))), .long a, .retAddr 0, .int (nI t), .int (nI ((2 ^ low (s &&& (s - 1))) ||| t))], [.long ((B 25) ((2 ^ low (s &&& (s - 1))) ||| t))], MW A B F false, 0, 0)) rfl ?_
      refine wp_go (f' := ((if (lg_cmp ((B 25) ((2 ^ low (s &&& (s - 1))) ||| t)) 0) = 0 then 103 else 70), [.ref 24, .int (nI s), .int (nI (s &&& (s - 1))), .int (nI (nb (low s))), .int (nI (2 ^ low (s &&& (s - 1)))), .int (nI (sd (s &&& (s - 1)) (2 ^ low (s &&& (s - 1))))), .long a, .retAddr 0, .int (nI t), .int (nI ((2 ^ low (s &&& (s - 1))) ||| t))], [], MW A B F false, 0, 0)) 3 rfl ?_
      refine wp_ite (fun h1 => ?_) (fun h1 => ?_)
      · skip
        refine wp_go (f' := ((if ¬ (nI t) = 0 then 112 else 108), [.ref 24, .int (nI s), .int (nI (s &&& (s - 1))), .int (nI (nb (low s))), .int (nI (2 ^ low (s &&& (s - 1)))), .int (nI (sd (s &&& (s - 1)) (2 ^ low (s &&& (s - 1))))), .long a, .retAddr 0, .int (nI t), .int (nI ((2 ^ low (s &&& (s - 1))) ||| t))], [], MW A B F false, 0, 0)) 2 rfl ?_
        refine wp_ite (fun _ => ?_) (fun h9 => absurd (fun h8 => ht0 ((nI_eq (a := t) (b := 0) (by omega) (by omega)).mp h8)) h9)
        refine wp_go (f' := (116, [.ref 24, .int (nI s), .int (nI (s &&& (s - 1))), .int (nI (nb (low s))), .int (nI (2 ^ low (s &&& (s - 1)))), .int (nI (sd (s &&& (s - 1)) (2 ^ low (s &&& (s - 1))))), .long a, .retAddr 0, .int (nI t), .int (nI ((2 ^ low (s &&& (s - 1))) ||| t))], [.int ((nI t) - (nI 1))], MW A B F false, 0, 0)) 3 rfl ?_
        rw [pk_sub (by omega)]
        refine wp_go (f' := (119, [.ref 24, .int (nI s), .int (nI (s &&& (s - 1))), .int (nI (nb (low s))), .int (nI (2 ^ low (s &&& (s - 1)))), .int (nI (sd (s &&& (s - 1)) (2 ^ low (s &&& (s - 1))))), .long a, .retAddr 0, .int (nI t), .int (nI ((2 ^ low (s &&& (s - 1))) ||| t))], [.int ((nI (t - 1)) &&& (nI (sd (s &&& (s - 1)) (2 ^ low (s &&& (s - 1))))))], MW A B F false, 0, 0)) 2 rfl ?_
        rw [bx_and]
        have hb2 : (t - 1) &&& (sd (s &&& (s - 1)) (2 ^ low (s &&& (s - 1)))) < 1024 := by first | omega | exact or_lt (by omega) (by omega) | exact and_lt (by omega) | exact and_lt_r (by omega) | exact sd_lt (by omega) | exact pow_lt (by omega)
        refine wp_go (f' := (46, [.ref 24, .int (nI s), .int (nI (s &&& (s - 1))), .int (nI (nb (low s))), .int (nI (2 ^ low (s &&& (s - 1)))), .int (nI (sd (s &&& (s - 1)) (2 ^ low (s &&& (s - 1))))), .long a, .retAddr 0, .int (nI ((t - 1) &&& (sd (s &&& (s - 1)) (2 ^ low (s &&& (s - 1)))))), .int (nI ((2 ^ low (s &&& (s - 1))) ||| t))], [], MW A B F false, 0, 0)) 2 rfl ?_
        have hL : limbC nb (B 25) s t a = a := by
          have h9 := (lg_cmp_eq _ _).mp h1
          unfold limbC; rw [if_pos h9]
        rw [hL] at ih3
        exact ih3 _
      · skip
        refine wp_go (f' := (76, [.ref 24, .int (nI s), .int (nI (s &&& (s - 1))), .int (nI (nb (low s))), .int (nI (2 ^ low (s &&& (s - 1)))), .int (nI (sd (s &&& (s - 1)) (2 ^ low (s &&& (s - 1))))), .long a, .retAddr 0, .int (nI t), .int (nI ((2 ^ low (s &&& (s - 1))) ||| t))], [.int ((nI (nb (low s))) &&& (nI ((2 ^ low (s &&& (s - 1))) ||| t))), .long a], MW A B F false, 0, 0)) 4 rfl ?_
        rw [bx_and]
        have hb3 : (nb (low s)) &&& ((2 ^ low (s &&& (s - 1))) ||| t) < 1024 := by first | omega | exact or_lt (by omega) (by omega) | exact and_lt (by omega) | exact and_lt_r (by omega) | exact sd_lt (by omega) | exact pow_lt (by omega)
        refine wp_call rfl rfl rfl (ev_up (ev_bitCount (s := (nb (low s)) &&& ((2 ^ low (s &&& (s - 1))) ||| t)) (by omega) _) (by decide)) ?_
        refine wp_eq (f' := (79, [.ref 24, .int (nI s), .int (nI (s &&& (s - 1))), .int (nI (nb (low s))), .int (nI (2 ^ low (s &&& (s - 1)))), .int (nI (sd (s &&& (s - 1)) (2 ^ low (s &&& (s - 1))))), .long a, .retAddr 0, .int (nI t), .int (nI ((2 ^ low (s &&& (s - 1))) ||| t))], [.int (nI (pop ((nb (low s)) &&& ((2 ^ low (s &&& (s - 1))) ||| t)))), .long a], MW A B F false, 0, 0)) rfl ?_
        have hpp := pop_le (s := (nb (low s)) &&& ((2 ^ low (s &&& (s - 1))) ||| t)) (by omega)
        refine wp_go (f' := (86, [.ref 24, .int (nI s), .int (nI (s &&& (s - 1))), .int (nI (nb (low s))), .int (nI (2 ^ low (s &&& (s - 1)))), .int (nI (sd (s &&& (s - 1)) (2 ^ low (s &&& (s - 1))))), .long a, .retAddr 0, .int (nI t), .int (nI ((2 ^ low (s &&& (s - 1))) ||| t))], [.int (nI ((2 ^ low (s &&& (s - 1))) ||| t)), .ref 25, .long ((nI (pop ((nb (low s)) &&& ((2 ^ low (s &&& (s - 1))) ||| t)))).toInt64), .long a], MW A B F false, 0, 0)) 4 rfl ?_
        refine wp_lald rfl rfl (by omega) (by decide) ?_
        refine wp_eq (f' := (87, [.ref 24, .int (nI s), .int (nI (s &&& (s - 1))), .int (nI (nb (low s))), .int (nI (2 ^ low (s &&& (s - 1)))), .int (nI (sd (s &&& (s - 1)) (2 ^ low (s &&& (s - 1))))), .long a, .retAddr 0, .int (nI t), .int (nI ((2 ^ low (s &&& (s - 1))) ||| t))], [.long ((B 25) ((2 ^ low (s &&& (s - 1))) ||| t)), .long ((nI (pop ((nb (low s)) &&& ((2 ^ low (s &&& (s - 1))) ||| t)))).toInt64), .long a], MW A B F false, 0, 0)) rfl ?_
        refine wp_go (f' := (98, [.ref 24, .int (nI s), .int (nI (s &&& (s - 1))), .int (nI (nb (low s))), .int (nI (2 ^ low (s &&& (s - 1)))), .int (nI (sd (s &&& (s - 1)) (2 ^ low (s &&& (s - 1))))), .long a, .retAddr 0, .int (nI t), .int (nI ((2 ^ low (s &&& (s - 1))) ||| t))], [.int ((nI s) &&& ((nI ((2 ^ low (s &&& (s - 1))) ||| t)) ^^^ (-1))), .ref 25, .long (((nI (pop ((nb (low s)) &&& ((2 ^ low (s &&& (s - 1))) ||| t)))).toInt64) * ((B 25) ((2 ^ low (s &&& (s - 1))) ||| t))), .long a], MW A B F false, 0, 0)) 8 rfl ?_
        rw [bx_sd (by omega)]
        have hb4 : sd s ((2 ^ low (s &&& (s - 1))) ||| t) < 1024 := by first | omega | exact or_lt (by omega) (by omega) | exact and_lt (by omega) | exact and_lt_r (by omega) | exact sd_lt (by omega) | exact pow_lt (by omega)
        refine wp_lald rfl rfl (by omega) (by decide) ?_
        refine wp_eq (f' := (99, [.ref 24, .int (nI s), .int (nI (s &&& (s - 1))), .int (nI (nb (low s))), .int (nI (2 ^ low (s &&& (s - 1)))), .int (nI (sd (s &&& (s - 1)) (2 ^ low (s &&& (s - 1))))), .long a, .retAddr 0, .int (nI t), .int (nI ((2 ^ low (s &&& (s - 1))) ||| t))], [.long ((B 25) (sd s ((2 ^ low (s &&& (s - 1))) ||| t))), .long (((nI (pop ((nb (low s)) &&& ((2 ^ low (s &&& (s - 1))) ||| t)))).toInt64) * ((B 25) ((2 ^ low (s &&& (s - 1))) ||| t))), .long a], MW A B F false, 0, 0)) rfl ?_
        refine wp_go (f' := ((if ¬ (nI t) = 0 then 112 else 108), [.ref 24, .int (nI s), .int (nI (s &&& (s - 1))), .int (nI (nb (low s))), .int (nI (2 ^ low (s &&& (s - 1)))), .int (nI (sd (s &&& (s - 1)) (2 ^ low (s &&& (s - 1))))), .long (a + ((((nI (pop ((nb (low s)) &&& ((2 ^ low (s &&& (s - 1))) ||| t)))).toInt64) * ((B 25) ((2 ^ low (s &&& (s - 1))) ||| t))) * ((B 25) (sd s ((2 ^ low (s &&& (s - 1))) ||| t))))), .retAddr 0, .int (nI t), .int (nI ((2 ^ low (s &&& (s - 1))) ||| t))], [], MW A B F false, 0, 0)) 5 rfl ?_
        refine wp_ite (fun _ => ?_) (fun h9 => absurd (fun h8 => ht0 ((nI_eq (a := t) (b := 0) (by omega) (by omega)).mp h8)) h9)
        refine wp_go (f' := (116, [.ref 24, .int (nI s), .int (nI (s &&& (s - 1))), .int (nI (nb (low s))), .int (nI (2 ^ low (s &&& (s - 1)))), .int (nI (sd (s &&& (s - 1)) (2 ^ low (s &&& (s - 1))))), .long (a + ((((nI (pop ((nb (low s)) &&& ((2 ^ low (s &&& (s - 1))) ||| t)))).toInt64) * ((B 25) ((2 ^ low (s &&& (s - 1))) ||| t))) * ((B 25) (sd s ((2 ^ low (s &&& (s - 1))) ||| t))))), .retAddr 0, .int (nI t), .int (nI ((2 ^ low (s &&& (s - 1))) ||| t))], [.int ((nI t) - (nI 1))], MW A B F false, 0, 0)) 3 rfl ?_
        rw [pk_sub (by omega)]
        refine wp_go (f' := (119, [.ref 24, .int (nI s), .int (nI (s &&& (s - 1))), .int (nI (nb (low s))), .int (nI (2 ^ low (s &&& (s - 1)))), .int (nI (sd (s &&& (s - 1)) (2 ^ low (s &&& (s - 1))))), .long (a + ((((nI (pop ((nb (low s)) &&& ((2 ^ low (s &&& (s - 1))) ||| t)))).toInt64) * ((B 25) ((2 ^ low (s &&& (s - 1))) ||| t))) * ((B 25) (sd s ((2 ^ low (s &&& (s - 1))) ||| t))))), .retAddr 0, .int (nI t), .int (nI ((2 ^ low (s &&& (s - 1))) ||| t))], [.int ((nI (t - 1)) &&& (nI (sd (s &&& (s - 1)) (2 ^ low (s &&& (s - 1))))))], MW A B F false, 0, 0)) 2 rfl ?_
        rw [bx_and]
        have hb5 : (t - 1) &&& (sd (s &&& (s - 1)) (2 ^ low (s &&& (s - 1)))) < 1024 := by first | omega | exact or_lt (by omega) (by omega) | exact and_lt (by omega) | exact and_lt_r (by omega) | exact sd_lt (by omega) | exact pow_lt (by omega)
        refine wp_go (f' := (46, [.ref 24, .int (nI s), .int (nI (s &&& (s - 1))), .int (nI (nb (low s))), .int (nI (2 ^ low (s &&& (s - 1)))), .int (nI (sd (s &&& (s - 1)) (2 ^ low (s &&& (s - 1))))), .long (a + ((((nI (pop ((nb (low s)) &&& ((2 ^ low (s &&& (s - 1))) ||| t)))).toInt64) * ((B 25) ((2 ^ low (s &&& (s - 1))) ||| t))) * ((B 25) (sd s ((2 ^ low (s &&& (s - 1))) ||| t))))), .retAddr 0, .int (nI ((t - 1) &&& (sd (s &&& (s - 1)) (2 ^ low (s &&& (s - 1)))))), .int (nI ((2 ^ low (s &&& (s - 1))) ||| t))], [], MW A B F false, 0, 0)) 2 rfl ?_
        have hL : limbC nb (B 25) s t a = a + ((((nI (pop ((nb (low s)) &&& ((2 ^ low (s &&& (s - 1))) ||| t)))).toInt64) * ((B 25) ((2 ^ low (s &&& (s - 1))) ||| t))) * ((B 25) (sd s ((2 ^ low (s &&& (s - 1))) ||| t)))) := by
          have h9 := (fun h8 => h1 ((lg_cmp_eq _ _).mpr h8) : ¬ (B 25) ((2 ^ low (s &&& (s - 1))) ||| t) = 0)
          unfold limbC; rw [if_neg h9]
        rw [hL] at ih3
        exact ih3 _
    · intro e9
      refine wp_go (f' := ((if (nI 0) < 0 then 124 else 51), [.ref 24, .int (nI s), .int (nI (s &&& (s - 1))), .int (nI (nb (low s))), .int (nI (2 ^ low (s &&& (s - 1)))), .int (nI (sd (s &&& (s - 1)) (2 ^ low (s &&& (s - 1))))), .long (subN (limbC nb (B 25) s) (sd (s &&& (s - 1)) (2 ^ low (s &&& (s - 1)))) (sd (s &&& (s - 1)) (2 ^ low (s &&& (s - 1)))) 0), .retAddr 0, .int (nI 0), e9], [], MW A B F false, 0, 0)) 2 rfl ?_
      refine wp_ite (fun h9 => absurd h9 (by decide)) (fun _ => ?_)
      refine wp_go (f' := (56, [.ref 24, .int (nI s), .int (nI (s &&& (s - 1))), .int (nI (nb (low s))), .int (nI (2 ^ low (s &&& (s - 1)))), .int (nI (sd (s &&& (s - 1)) (2 ^ low (s &&& (s - 1))))), .long (subN (limbC nb (B 25) s) (sd (s &&& (s - 1)) (2 ^ low (s &&& (s - 1)))) (sd (s &&& (s - 1)) (2 ^ low (s &&& (s - 1)))) 0), .retAddr 0, .int (nI 0), e9], [.int ((nI (2 ^ low (s &&& (s - 1)))) ||| (nI 0))], MW A B F false, 0, 0)) 3 rfl ?_
      rw [bx_or]
      have hb1 : (2 ^ low (s &&& (s - 1))) ||| 0 < 1024 := by first | omega | exact or_lt (by omega) (by omega) | exact and_lt (by omega) | exact and_lt_r (by omega) | exact sd_lt (by omega) | exact pow_lt (by omega)
      refine wp_go (f' := (64, [.ref 24, .int (nI s), .int (nI (s &&& (s - 1))), .int (nI (nb (low s))), .int (nI (2 ^ low (s &&& (s - 1)))), .int (nI (sd (s &&& (s - 1)) (2 ^ low (s &&& (s - 1))))), .long (subN (limbC nb (B 25) s) (sd (s &&& (s - 1)) (2 ^ low (s &&& (s - 1)))) (sd (s &&& (s - 1)) (2 ^ low (s &&& (s - 1)))) 0), .retAddr 0, .int (nI 0), .int (nI ((2 ^ low (s &&& (s - 1))) ||| 0))], [.int (nI ((2 ^ low (s &&& (s - 1))) ||| 0)), .ref 25], MW A B F false, 0, 0)) 4 rfl ?_
      refine wp_lald rfl rfl (by omega) (by decide) ?_
      refine wp_eq (f' := (65, [.ref 24, .int (nI s), .int (nI (s &&& (s - 1))), .int (nI (nb (low s))), .int (nI (2 ^ low (s &&& (s - 1)))), .int (nI (sd (s &&& (s - 1)) (2 ^ low (s &&& (s - 1))))), .long (subN (limbC nb (B 25) s) (sd (s &&& (s - 1)) (2 ^ low (s &&& (s - 1)))) (sd (s &&& (s - 1)) (2 ^ low (s &&& (s - 1)))) 0), .retAddr 0, .int (nI 0), .int (nI ((2 ^ low (s &&& (s - 1))) ||| 0))], [.long ((B 25) ((2 ^ low (s &&& (s - 1))) ||| 0))], MW A B F false, 0, 0)) rfl ?_
      refine wp_go (f' := ((if (lg_cmp ((B 25) ((2 ^ low (s &&& (s - 1))) ||| 0)) 0) = 0 then 103 else 70), [.ref 24, .int (nI s), .int (nI (s &&& (s - 1))), .int (nI (nb (low s))), .int (nI (2 ^ low (s &&& (s - 1)))), .int (nI (sd (s &&& (s - 1)) (2 ^ low (s &&& (s - 1))))), .long (subN (limbC nb (B 25) s) (sd (s &&& (s - 1)) (2 ^ low (s &&& (s - 1)))) (sd (s &&& (s - 1)) (2 ^ low (s &&& (s - 1)))) 0), .retAddr 0, .int (nI 0), .int (nI ((2 ^ low (s &&& (s - 1))) ||| 0))], [], MW A B F false, 0, 0)) 3 rfl ?_
      refine wp_ite (fun h1 => ?_) (fun h1 => ?_)
      · skip
        refine wp_go (f' := ((if ¬ (nI 0) = 0 then 112 else 108), [.ref 24, .int (nI s), .int (nI (s &&& (s - 1))), .int (nI (nb (low s))), .int (nI (2 ^ low (s &&& (s - 1)))), .int (nI (sd (s &&& (s - 1)) (2 ^ low (s &&& (s - 1))))), .long (subN (limbC nb (B 25) s) (sd (s &&& (s - 1)) (2 ^ low (s &&& (s - 1)))) (sd (s &&& (s - 1)) (2 ^ low (s &&& (s - 1)))) 0), .retAddr 0, .int (nI 0), .int (nI ((2 ^ low (s &&& (s - 1))) ||| 0))], [], MW A B F false, 0, 0)) 2 rfl ?_
        refine wp_ite (fun h9 => absurd h9 (fun h8 => h8 rfl)) (fun _ => ?_)
        refine wp_go (f' := (46, [.ref 24, .int (nI s), .int (nI (s &&& (s - 1))), .int (nI (nb (low s))), .int (nI (2 ^ low (s &&& (s - 1)))), .int (nI (sd (s &&& (s - 1)) (2 ^ low (s &&& (s - 1))))), .long (subN (limbC nb (B 25) s) (sd (s &&& (s - 1)) (2 ^ low (s &&& (s - 1)))) (sd (s &&& (s - 1)) (2 ^ low (s &&& (s - 1)))) 0), .retAddr 0, .int (-1), .int (nI ((2 ^ low (s &&& (s - 1))) ||| 0))], [], MW A B F false, 0, 0)) 4 rfl ?_
        have hL : limbC nb (B 25) s 0 (subN (limbC nb (B 25) s) (sd (s &&& (s - 1)) (2 ^ low (s &&& (s - 1)))) (sd (s &&& (s - 1)) (2 ^ low (s &&& (s - 1)))) 0) = (subN (limbC nb (B 25) s) (sd (s &&& (s - 1)) (2 ^ low (s &&& (s - 1)))) (sd (s &&& (s - 1)) (2 ^ low (s &&& (s - 1)))) 0) := by
          have h9 := (lg_cmp_eq _ _).mp h1
          unfold limbC; rw [if_pos h9]
        rw [← hL]
        rw [show treeC nb (B 25) s = limbC nb (B 25) s 0 (subN (limbC nb (B 25) s) (sd (s &&& (s - 1)) (2 ^ low (s &&& (s - 1)))) (sd (s &&& (s - 1)) (2 ^ low (s &&& (s - 1)))) 0) by unfold treeC; rw [if_neg hr0]; rfl]
        refine wp_go (f' := ((if (-1) < 0 then 124 else 51), [.ref 24, .int (nI s), .int (nI (s &&& (s - 1))), .int (nI (nb (low s))), .int (nI (2 ^ low (s &&& (s - 1)))), .int (nI (sd (s &&& (s - 1)) (2 ^ low (s &&& (s - 1))))), .long (limbC nb (B 25) s 0 (subN (limbC nb (B 25) s) (sd (s &&& (s - 1)) (2 ^ low (s &&& (s - 1)))) (sd (s &&& (s - 1)) (2 ^ low (s &&& (s - 1)))) 0)), .retAddr 0, .int (-1), .int (nI ((2 ^ low (s &&& (s - 1))) ||| 0))], [], MW A B F false, 0, 0)) 2 rfl ?_
        refine wp_ite (fun _ => ?_) (fun h9 => absurd (by decide : (-1 : Int32) < 0) h9)
        refine wp_go (f' := (126, [.ref 24, .int (nI s), .int (nI (s &&& (s - 1))), .int (nI (nb (low s))), .int (nI (2 ^ low (s &&& (s - 1)))), .int (nI (sd (s &&& (s - 1)) (2 ^ low (s &&& (s - 1))))), .long (limbC nb (B 25) s 0 (subN (limbC nb (B 25) s) (sd (s &&& (s - 1)) (2 ^ low (s &&& (s - 1)))) (sd (s &&& (s - 1)) (2 ^ low (s &&& (s - 1)))) 0)), .retAddr 0, .int (-1), .int (nI ((2 ^ low (s &&& (s - 1))) ||| 0))], [.long (limbC nb (B 25) s 0 (subN (limbC nb (B 25) s) (sd (s &&& (s - 1)) (2 ^ low (s &&& (s - 1)))) (sd (s &&& (s - 1)) (2 ^ low (s &&& (s - 1)))) 0))], MW A B F false, 0, 0)) 1 rfl ?_
        exact wp_lret rfl
      · skip
        refine wp_go (f' := (76, [.ref 24, .int (nI s), .int (nI (s &&& (s - 1))), .int (nI (nb (low s))), .int (nI (2 ^ low (s &&& (s - 1)))), .int (nI (sd (s &&& (s - 1)) (2 ^ low (s &&& (s - 1))))), .long (subN (limbC nb (B 25) s) (sd (s &&& (s - 1)) (2 ^ low (s &&& (s - 1)))) (sd (s &&& (s - 1)) (2 ^ low (s &&& (s - 1)))) 0), .retAddr 0, .int (nI 0), .int (nI ((2 ^ low (s &&& (s - 1))) ||| 0))], [.int ((nI (nb (low s))) &&& (nI ((2 ^ low (s &&& (s - 1))) ||| 0))), .long (subN (limbC nb (B 25) s) (sd (s &&& (s - 1)) (2 ^ low (s &&& (s - 1)))) (sd (s &&& (s - 1)) (2 ^ low (s &&& (s - 1)))) 0)], MW A B F false, 0, 0)) 4 rfl ?_
        rw [bx_and]
        have hb2 : (nb (low s)) &&& ((2 ^ low (s &&& (s - 1))) ||| 0) < 1024 := by first | omega | exact or_lt (by omega) (by omega) | exact and_lt (by omega) | exact and_lt_r (by omega) | exact sd_lt (by omega) | exact pow_lt (by omega)
        refine wp_call rfl rfl rfl (ev_up (ev_bitCount (s := (nb (low s)) &&& ((2 ^ low (s &&& (s - 1))) ||| 0)) (by omega) _) (by decide)) ?_
        refine wp_eq (f' := (79, [.ref 24, .int (nI s), .int (nI (s &&& (s - 1))), .int (nI (nb (low s))), .int (nI (2 ^ low (s &&& (s - 1)))), .int (nI (sd (s &&& (s - 1)) (2 ^ low (s &&& (s - 1))))), .long (subN (limbC nb (B 25) s) (sd (s &&& (s - 1)) (2 ^ low (s &&& (s - 1)))) (sd (s &&& (s - 1)) (2 ^ low (s &&& (s - 1)))) 0), .retAddr 0, .int (nI 0), .int (nI ((2 ^ low (s &&& (s - 1))) ||| 0))], [.int (nI (pop ((nb (low s)) &&& ((2 ^ low (s &&& (s - 1))) ||| 0)))), .long (subN (limbC nb (B 25) s) (sd (s &&& (s - 1)) (2 ^ low (s &&& (s - 1)))) (sd (s &&& (s - 1)) (2 ^ low (s &&& (s - 1)))) 0)], MW A B F false, 0, 0)) rfl ?_
        have hpp := pop_le (s := (nb (low s)) &&& ((2 ^ low (s &&& (s - 1))) ||| 0)) (by omega)
        refine wp_go (f' := (86, [.ref 24, .int (nI s), .int (nI (s &&& (s - 1))), .int (nI (nb (low s))), .int (nI (2 ^ low (s &&& (s - 1)))), .int (nI (sd (s &&& (s - 1)) (2 ^ low (s &&& (s - 1))))), .long (subN (limbC nb (B 25) s) (sd (s &&& (s - 1)) (2 ^ low (s &&& (s - 1)))) (sd (s &&& (s - 1)) (2 ^ low (s &&& (s - 1)))) 0), .retAddr 0, .int (nI 0), .int (nI ((2 ^ low (s &&& (s - 1))) ||| 0))], [.int (nI ((2 ^ low (s &&& (s - 1))) ||| 0)), .ref 25, .long ((nI (pop ((nb (low s)) &&& ((2 ^ low (s &&& (s - 1))) ||| 0)))).toInt64), .long (subN (limbC nb (B 25) s) (sd (s &&& (s - 1)) (2 ^ low (s &&& (s - 1)))) (sd (s &&& (s - 1)) (2 ^ low (s &&& (s - 1)))) 0)], MW A B F false, 0, 0)) 4 rfl ?_
        refine wp_lald rfl rfl (by omega) (by decide) ?_
        refine wp_eq (f' := (87, [.ref 24, .int (nI s), .int (nI (s &&& (s - 1))), .int (nI (nb (low s))), .int (nI (2 ^ low (s &&& (s - 1)))), .int (nI (sd (s &&& (s - 1)) (2 ^ low (s &&& (s - 1))))), .long (subN (limbC nb (B 25) s) (sd (s &&& (s - 1)) (2 ^ low (s &&& (s - 1)))) (sd (s &&& (s - 1)) (2 ^ low (s &&& (s - 1)))) 0), .retAddr 0, .int (nI 0), .int (nI ((2 ^ low (s &&& (s - 1))) ||| 0))], [.long ((B 25) ((2 ^ low (s &&& (s - 1))) ||| 0)), .long ((nI (pop ((nb (low s)) &&& ((2 ^ low (s &&& (s - 1))) ||| 0)))).toInt64), .long (subN (limbC nb (B 25) s) (sd (s &&& (s - 1)) (2 ^ low (s &&& (s - 1)))) (sd (s &&& (s - 1)) (2 ^ low (s &&& (s - 1)))) 0)], MW A B F false, 0, 0)) rfl ?_
        refine wp_go (f' := (98, [.ref 24, .int (nI s), .int (nI (s &&& (s - 1))), .int (nI (nb (low s))), .int (nI (2 ^ low (s &&& (s - 1)))), .int (nI (sd (s &&& (s - 1)) (2 ^ low (s &&& (s - 1))))), .long (subN (limbC nb (B 25) s) (sd (s &&& (s - 1)) (2 ^ low (s &&& (s - 1)))) (sd (s &&& (s - 1)) (2 ^ low (s &&& (s - 1)))) 0), .retAddr 0, .int (nI 0), .int (nI ((2 ^ low (s &&& (s - 1))) ||| 0))], [.int ((nI s) &&& ((nI ((2 ^ low (s &&& (s - 1))) ||| 0)) ^^^ (-1))), .ref 25, .long (((nI (pop ((nb (low s)) &&& ((2 ^ low (s &&& (s - 1))) ||| 0)))).toInt64) * ((B 25) ((2 ^ low (s &&& (s - 1))) ||| 0))), .long (subN (limbC nb (B 25) s) (sd (s &&& (s - 1)) (2 ^ low (s &&& (s - 1)))) (sd (s &&& (s - 1)) (2 ^ low (s &&& (s - 1)))) 0)], MW A B F false, 0, 0)) 8 rfl ?_
        rw [bx_sd (by omega)]
        have hb3 : sd s ((2 ^ low (s &&& (s - 1))) ||| 0) < 1024 := by first | omega | exact or_lt (by omega) (by omega) | exact and_lt (by omega) | exact and_lt_r (by omega) | exact sd_lt (by omega) | exact pow_lt (by omega)
        refine wp_lald rfl rfl (by omega) (by decide) ?_
        refine wp_eq (f' := (99, [.ref 24, .int (nI s), .int (nI (s &&& (s - 1))), .int (nI (nb (low s))), .int (nI (2 ^ low (s &&& (s - 1)))), .int (nI (sd (s &&& (s - 1)) (2 ^ low (s &&& (s - 1))))), .long (subN (limbC nb (B 25) s) (sd (s &&& (s - 1)) (2 ^ low (s &&& (s - 1)))) (sd (s &&& (s - 1)) (2 ^ low (s &&& (s - 1)))) 0), .retAddr 0, .int (nI 0), .int (nI ((2 ^ low (s &&& (s - 1))) ||| 0))], [.long ((B 25) (sd s ((2 ^ low (s &&& (s - 1))) ||| 0))), .long (((nI (pop ((nb (low s)) &&& ((2 ^ low (s &&& (s - 1))) ||| 0)))).toInt64) * ((B 25) ((2 ^ low (s &&& (s - 1))) ||| 0))), .long (subN (limbC nb (B 25) s) (sd (s &&& (s - 1)) (2 ^ low (s &&& (s - 1)))) (sd (s &&& (s - 1)) (2 ^ low (s &&& (s - 1)))) 0)], MW A B F false, 0, 0)) rfl ?_
        refine wp_go (f' := ((if ¬ (nI 0) = 0 then 112 else 108), [.ref 24, .int (nI s), .int (nI (s &&& (s - 1))), .int (nI (nb (low s))), .int (nI (2 ^ low (s &&& (s - 1)))), .int (nI (sd (s &&& (s - 1)) (2 ^ low (s &&& (s - 1))))), .long ((subN (limbC nb (B 25) s) (sd (s &&& (s - 1)) (2 ^ low (s &&& (s - 1)))) (sd (s &&& (s - 1)) (2 ^ low (s &&& (s - 1)))) 0) + ((((nI (pop ((nb (low s)) &&& ((2 ^ low (s &&& (s - 1))) ||| 0)))).toInt64) * ((B 25) ((2 ^ low (s &&& (s - 1))) ||| 0))) * ((B 25) (sd s ((2 ^ low (s &&& (s - 1))) ||| 0))))), .retAddr 0, .int (nI 0), .int (nI ((2 ^ low (s &&& (s - 1))) ||| 0))], [], MW A B F false, 0, 0)) 5 rfl ?_
        refine wp_ite (fun h9 => absurd h9 (fun h8 => h8 rfl)) (fun _ => ?_)
        refine wp_go (f' := (46, [.ref 24, .int (nI s), .int (nI (s &&& (s - 1))), .int (nI (nb (low s))), .int (nI (2 ^ low (s &&& (s - 1)))), .int (nI (sd (s &&& (s - 1)) (2 ^ low (s &&& (s - 1))))), .long ((subN (limbC nb (B 25) s) (sd (s &&& (s - 1)) (2 ^ low (s &&& (s - 1)))) (sd (s &&& (s - 1)) (2 ^ low (s &&& (s - 1)))) 0) + ((((nI (pop ((nb (low s)) &&& ((2 ^ low (s &&& (s - 1))) ||| 0)))).toInt64) * ((B 25) ((2 ^ low (s &&& (s - 1))) ||| 0))) * ((B 25) (sd s ((2 ^ low (s &&& (s - 1))) ||| 0))))), .retAddr 0, .int (-1), .int (nI ((2 ^ low (s &&& (s - 1))) ||| 0))], [], MW A B F false, 0, 0)) 4 rfl ?_
        have hL : limbC nb (B 25) s 0 (subN (limbC nb (B 25) s) (sd (s &&& (s - 1)) (2 ^ low (s &&& (s - 1)))) (sd (s &&& (s - 1)) (2 ^ low (s &&& (s - 1)))) 0) = (subN (limbC nb (B 25) s) (sd (s &&& (s - 1)) (2 ^ low (s &&& (s - 1)))) (sd (s &&& (s - 1)) (2 ^ low (s &&& (s - 1)))) 0) + ((((nI (pop ((nb (low s)) &&& ((2 ^ low (s &&& (s - 1))) ||| 0)))).toInt64) * ((B 25) ((2 ^ low (s &&& (s - 1))) ||| 0))) * ((B 25) (sd s ((2 ^ low (s &&& (s - 1))) ||| 0)))) := by
          have h9 := (fun h8 => h1 ((lg_cmp_eq _ _).mpr h8) : ¬ (B 25) ((2 ^ low (s &&& (s - 1))) ||| 0) = 0)
          unfold limbC; rw [if_neg h9]
        rw [← hL]
        rw [show treeC nb (B 25) s = limbC nb (B 25) s 0 (subN (limbC nb (B 25) s) (sd (s &&& (s - 1)) (2 ^ low (s &&& (s - 1)))) (sd (s &&& (s - 1)) (2 ^ low (s &&& (s - 1)))) 0) by unfold treeC; rw [if_neg hr0]; rfl]
        refine wp_go (f' := ((if (-1) < 0 then 124 else 51), [.ref 24, .int (nI s), .int (nI (s &&& (s - 1))), .int (nI (nb (low s))), .int (nI (2 ^ low (s &&& (s - 1)))), .int (nI (sd (s &&& (s - 1)) (2 ^ low (s &&& (s - 1))))), .long (limbC nb (B 25) s 0 (subN (limbC nb (B 25) s) (sd (s &&& (s - 1)) (2 ^ low (s &&& (s - 1)))) (sd (s &&& (s - 1)) (2 ^ low (s &&& (s - 1)))) 0)), .retAddr 0, .int (-1), .int (nI ((2 ^ low (s &&& (s - 1))) ||| 0))], [], MW A B F false, 0, 0)) 2 rfl ?_
        refine wp_ite (fun _ => ?_) (fun h9 => absurd (by decide : (-1 : Int32) < 0) h9)
        refine wp_go (f' := (126, [.ref 24, .int (nI s), .int (nI (s &&& (s - 1))), .int (nI (nb (low s))), .int (nI (2 ^ low (s &&& (s - 1)))), .int (nI (sd (s &&& (s - 1)) (2 ^ low (s &&& (s - 1))))), .long (limbC nb (B 25) s 0 (subN (limbC nb (B 25) s) (sd (s &&& (s - 1)) (2 ^ low (s &&& (s - 1)))) (sd (s &&& (s - 1)) (2 ^ low (s &&& (s - 1)))) 0)), .retAddr 0, .int (-1), .int (nI ((2 ^ low (s &&& (s - 1))) ||| 0))], [.long (limbC nb (B 25) s 0 (subN (limbC nb (B 25) s) (sd (s &&& (s - 1)) (2 ^ low (s &&& (s - 1)))) (sd (s &&& (s - 1)) (2 ^ low (s &&& (s - 1)))) 0))], MW A B F false, 0, 0)) 1 rfl ?_
        exact wp_lret rfl
  · have hr0 : s &&& (s - 1) = 0 := (nI_eq (a := s &&& (s - 1)) (b := 0) (by omega) (by omega)).mp (Classical.not_not.mp hne)
    rw [show treeC nb (B 25) s = 1 by unfold treeC; rw [if_pos hr0]]
    refine wp_go (f' := (11, [.ref 24, .int (nI s), .int (nI (s &&& (s - 1))), .retAddr 0, .retAddr 0, .retAddr 0, .retAddr 0, .retAddr 0, .retAddr 0, .retAddr 0], [.long 1], MW A B F false, 0, 0)) 1 rfl ?_
    exact wp_lret rfl
theorem ev_cTreesOn_t (hC : CI A F n nb) (hR : RI A n nb) {s : Nat} (hs : s < 2 ^ n) (hs0 : ¬ s = 0) : mv_Ev xs Ls 3 70 [.ref 24, .int (nI s)] (MW A B F true) (some (.long (treeC nb (B 25) s)), MW A B F true, 0, 0) := by
  refine ev_of_wp rfl rfl rfl ?_
  have hn := hC.1
  have hp := pow10 hn
  have hp1 : 1 ≤ 2 ^ n := Nat.one_le_two_pow
  have hal := all_lt hn
  have hrl : s &&& (s - 1) < 1024 := and_lt (by omega)
  refine wp_go (f' := (4, [.ref 24, .int (nI s), .retAddr 0, .retAddr 0, .retAddr 0, .retAddr 0, .retAddr 0, .retAddr 0, .retAddr 0, .retAddr 0], [.int ((nI s) - (nI 1)), .int (nI s)], MW A B F true, 0, 0)) 4 rfl ?_
  rw [pk_sub (by omega)]
  refine wp_go (f' := (5, [.ref 24, .int (nI s), .retAddr 0, .retAddr 0, .retAddr 0, .retAddr 0, .retAddr 0, .retAddr 0, .retAddr 0, .retAddr 0], [.int ((nI s) &&& (nI (s - 1)))], MW A B F true, 0, 0)) 1 rfl ?_
  rw [bx_and]
  refine wp_go (f' := ((if ¬ (nI (s &&& (s - 1))) = 0 then 12 else 10), [.ref 24, .int (nI s), .int (nI (s &&& (s - 1))), .retAddr 0, .retAddr 0, .retAddr 0, .retAddr 0, .retAddr 0, .retAddr 0, .retAddr 0], [], MW A B F true, 0, 0)) 3 rfl ?_
  refine wp_ite (fun hne => ?_) (fun hne => ?_)
  · have hr0 : ¬ s &&& (s - 1) = 0 := fun h9 => hne ((nI_eq (a := s &&& (s - 1)) (b := 0) (by omega) (by omega)).mpr h9)
    have hl2 := low_lt hrl hr0
    have hse : 2 ^ low (s &&& (s - 1)) < 1024 := pow_lt hl2
    refine wp_go (f' := (20, [.ref 24, .int (nI s), .int (nI (s &&& (s - 1))), .retAddr 0, .retAddr 0, .retAddr 0, .retAddr 0, .retAddr 0, .retAddr 0, .retAddr 0], [.int (nI s), .ref 2], MW A B F true, 0, 0)) 4 rfl ?_
    refine wp_call rfl rfl rfl (ev_up (ev_low (s := s) (by omega) (by omega) _) (by decide)) ?_
    refine wp_eq (f' := (23, [.ref 24, .int (nI s), .int (nI (s &&& (s - 1))), .retAddr 0, .retAddr 0, .retAddr 0, .retAddr 0, .retAddr 0, .retAddr 0, .retAddr 0], [.int (nI (low s)), .ref 2], MW A B F true, 0, 0)) rfl ?_
    have hlw := low_lt (s := s) (by omega) (by omega)
    refine wp_iald rfl rfl (by omega) (by decide) ?_
    rw [hC.2.2.1 (low s) (by omega)]
    have hnb := hC.2.2.2 (low s) (by omega)
    refine wp_go (f' := (29, [.ref 24, .int (nI s), .int (nI (s &&& (s - 1))), .int (nI (nb (low s))), .retAddr 0, .retAddr 0, .retAddr 0, .retAddr 0, .retAddr 0, .retAddr 0], [.int ((nI (s &&& (s - 1))) &&& (-(nI (s &&& (s - 1)))))], MW A B F true, 0, 0)) 5 rfl ?_
    rw [bx_low (by omega) (by omega)]
    have hb1 : 2 ^ low (s &&& (s - 1)) < 1024 := by first | omega | exact or_lt (by omega) (by omega) | exact and_lt (by omega) | exact and_lt_r (by omega) | exact sd_lt (by omega) | exact pow_lt (by omega)
    refine wp_go (f' := (37, [.ref 24, .int (nI s), .int (nI (s &&& (s - 1))), .int (nI (nb (low s))), .int (nI (2 ^ low (s &&& (s - 1)))), .retAddr 0, .retAddr 0, .retAddr 0, .retAddr 0, .retAddr 0], [.int ((nI (s &&& (s - 1))) &&& ((nI (2 ^ low (s &&& (s - 1)))) ^^^ (-1)))], MW A B F true, 0, 0)) 6 rfl ?_
    rw [bx_sd (by omega)]
    have hb2 : sd (s &&& (s - 1)) (2 ^ low (s &&& (s - 1))) < 1024 := by first | omega | exact or_lt (by omega) (by omega) | exact and_lt (by omega) | exact and_lt_r (by omega) | exact sd_lt (by omega) | exact pow_lt (by omega)
    refine wp_go (f' := (46, [.ref 24, .int (nI s), .int (nI (s &&& (s - 1))), .int (nI (nb (low s))), .int (nI (2 ^ low (s &&& (s - 1)))), .int (nI (sd (s &&& (s - 1)) (2 ^ low (s &&& (s - 1))))), .long 0, .retAddr 0, .int (nI (sd (s &&& (s - 1)) (2 ^ low (s &&& (s - 1))))), .retAddr 0], [], MW A B F true, 0, 0)) 5 rfl ?_
    refine sub_ind (P := fun (t : Nat) (a : Int64) => ∀ e9 : Value, mv_Wp xs Ls 2 0 false (some .long) mv_c70 (46, [.ref 24, .int (nI s), .int (nI (s &&& (s - 1))), .int (nI (nb (low s))), .int (nI (2 ^ low (s &&& (s - 1)))), .int (nI (sd (s &&& (s - 1)) (2 ^ low (s &&& (s - 1))))), .long a, .retAddr 0, .int (nI t), e9], [], MW A B F true, 0, 0) (some (.long (treeC nb (B 25) s)), MW A B F true, 0, 0)) (f := limbC nb (B 25) s) (s := sd (s &&& (s - 1)) (2 ^ low (s &&& (s - 1)))) ?_ (sd (s &&& (s - 1)) (2 ^ low (s &&& (s - 1)))) 0 (by omega) ?_ _
    · intro t a ht ht0 ih3 e9
      have htm : (t - 1) &&& (sd (s &&& (s - 1)) (2 ^ low (s &&& (s - 1)))) ≤ t - 1 := Nat.and_le_left
      refine wp_go (f' := ((if (nI t) < 0 then 124 else 51), [.ref 24, .int (nI s), .int (nI (s &&& (s - 1))), .int (nI (nb (low s))), .int (nI (2 ^ low (s &&& (s - 1)))), .int (nI (sd (s &&& (s - 1)) (2 ^ low (s &&& (s - 1))))), .long a, .retAddr 0, .int (nI t), e9], [], MW A B F true, 0, 0)) 2 rfl ?_
      refine wp_ite (fun h9 => absurd h9 (ne_m1 ht)) (fun _ => ?_)
      refine wp_go (f' := (56, [.ref 24, .int (nI s), .int (nI (s &&& (s - 1))), .int (nI (nb (low s))), .int (nI (2 ^ low (s &&& (s - 1)))), .int (nI (sd (s &&& (s - 1)) (2 ^ low (s &&& (s - 1))))), .long a, .retAddr 0, .int (nI t), e9], [.int ((nI (2 ^ low (s &&& (s - 1)))) ||| (nI t))], MW A B F true, 0, 0)) 3 rfl ?_
      rw [bx_or]
      have hb1 : (2 ^ low (s &&& (s - 1))) ||| t < 1024 := by first | omega | exact or_lt (by omega) (by omega) | exact and_lt (by omega) | exact and_lt_r (by omega) | exact sd_lt (by omega) | exact pow_lt (by omega)
      refine wp_go (f' := (64, [.ref 24, .int (nI s), .int (nI (s &&& (s - 1))), .int (nI (nb (low s))), .int (nI (2 ^ low (s &&& (s - 1)))), .int (nI (sd (s &&& (s - 1)) (2 ^ low (s &&& (s - 1))))), .long a, .retAddr 0, .int (nI t), .int (nI ((2 ^ low (s &&& (s - 1))) ||| t))], [.int (nI ((2 ^ low (s &&& (s - 1))) ||| t)), .ref 26], MW A B F true, 0, 0)) 4 rfl ?_
      refine wp_lald rfl rfl (by omega) (by decide) ?_
      refine wp_eq (f' := (65, [.ref 24, .int (nI s), .int (nI (s &&& (s - 1))), .int (nI (nb (low s))), .int (nI (2 ^ low (s &&& (s - 1)))), .int (nI (sd (s &&& (s - 1)) (2 ^ low (s &&& (s - 1))))), .long a, .retAddr 0, .int (nI t), .int (nI ((2 ^ low (s &&& (s - 1))) ||| t))], [.long ((B 25) ((2 ^ low (s &&& (s - 1))) ||| t))], MW A B F true, 0, 0)) rfl ?_
      refine wp_go (f' := ((if (lg_cmp ((B 25) ((2 ^ low (s &&& (s - 1))) ||| t)) 0) = 0 then 103 else 70), [.ref 24, .int (nI s), .int (nI (s &&& (s - 1))), .int (nI (nb (low s))), .int (nI (2 ^ low (s &&& (s - 1)))), .int (nI (sd (s &&& (s - 1)) (2 ^ low (s &&& (s - 1))))), .long a, .retAddr 0, .int (nI t), .int (nI ((2 ^ low (s &&& (s - 1))) ||| t))], [], MW A B F true, 0, 0)) 3 rfl ?_
      refine wp_ite (fun h1 => ?_) (fun h1 => ?_)
      · skip
        refine wp_go (f' := ((if ¬ (nI t) = 0 then 112 else 108), [.ref 24, .int (nI s), .int (nI (s &&& (s - 1))), .int (nI (nb (low s))), .int (nI (2 ^ low (s &&& (s - 1)))), .int (nI (sd (s &&& (s - 1)) (2 ^ low (s &&& (s - 1))))), .long a, .retAddr 0, .int (nI t), .int (nI ((2 ^ low (s &&& (s - 1))) ||| t))], [], MW A B F true, 0, 0)) 2 rfl ?_
        refine wp_ite (fun _ => ?_) (fun h9 => absurd (fun h8 => ht0 ((nI_eq (a := t) (b := 0) (by omega) (by omega)).mp h8)) h9)
        refine wp_go (f' := (116, [.ref 24, .int (nI s), .int (nI (s &&& (s - 1))), .int (nI (nb (low s))), .int (nI (2 ^ low (s &&& (s - 1)))), .int (nI (sd (s &&& (s - 1)) (2 ^ low (s &&& (s - 1))))), .long a, .retAddr 0, .int (nI t), .int (nI ((2 ^ low (s &&& (s - 1))) ||| t))], [.int ((nI t) - (nI 1))], MW A B F true, 0, 0)) 3 rfl ?_
        rw [pk_sub (by omega)]
        refine wp_go (f' := (119, [.ref 24, .int (nI s), .int (nI (s &&& (s - 1))), .int (nI (nb (low s))), .int (nI (2 ^ low (s &&& (s - 1)))), .int (nI (sd (s &&& (s - 1)) (2 ^ low (s &&& (s - 1))))), .long a, .retAddr 0, .int (nI t), .int (nI ((2 ^ low (s &&& (s - 1))) ||| t))], [.int ((nI (t - 1)) &&& (nI (sd (s &&& (s - 1)) (2 ^ low (s &&& (s - 1))))))], MW A B F true, 0, 0)) 2 rfl ?_
        rw [bx_and]
        have hb2 : (t - 1) &&& (sd (s &&& (s - 1)) (2 ^ low (s &&& (s - 1)))) < 1024 := by first | omega | exact or_lt (by omega) (by omega) | exact and_lt (by omega) | exact and_lt_r (by omega) | exact sd_lt (by omega) | exact pow_lt (by omega)
        refine wp_go (f' := (46, [.ref 24, .int (nI s), .int (nI (s &&& (s - 1))), .int (nI (nb (low s))), .int (nI (2 ^ low (s &&& (s - 1)))), .int (nI (sd (s &&& (s - 1)) (2 ^ low (s &&& (s - 1))))), .long a, .retAddr 0, .int (nI ((t - 1) &&& (sd (s &&& (s - 1)) (2 ^ low (s &&& (s - 1)))))), .int (nI ((2 ^ low (s &&& (s - 1))) ||| t))], [], MW A B F true, 0, 0)) 2 rfl ?_
        have hL : limbC nb (B 25) s t a = a := by
          have h9 := (lg_cmp_eq _ _).mp h1
          unfold limbC; rw [if_pos h9]
        rw [hL] at ih3
        exact ih3 _
      · skip
        refine wp_go (f' := (76, [.ref 24, .int (nI s), .int (nI (s &&& (s - 1))), .int (nI (nb (low s))), .int (nI (2 ^ low (s &&& (s - 1)))), .int (nI (sd (s &&& (s - 1)) (2 ^ low (s &&& (s - 1))))), .long a, .retAddr 0, .int (nI t), .int (nI ((2 ^ low (s &&& (s - 1))) ||| t))], [.int ((nI (nb (low s))) &&& (nI ((2 ^ low (s &&& (s - 1))) ||| t))), .long a], MW A B F true, 0, 0)) 4 rfl ?_
        rw [bx_and]
        have hb3 : (nb (low s)) &&& ((2 ^ low (s &&& (s - 1))) ||| t) < 1024 := by first | omega | exact or_lt (by omega) (by omega) | exact and_lt (by omega) | exact and_lt_r (by omega) | exact sd_lt (by omega) | exact pow_lt (by omega)
        refine wp_call rfl rfl rfl (ev_up (ev_bitCount (s := (nb (low s)) &&& ((2 ^ low (s &&& (s - 1))) ||| t)) (by omega) _) (by decide)) ?_
        refine wp_eq (f' := (79, [.ref 24, .int (nI s), .int (nI (s &&& (s - 1))), .int (nI (nb (low s))), .int (nI (2 ^ low (s &&& (s - 1)))), .int (nI (sd (s &&& (s - 1)) (2 ^ low (s &&& (s - 1))))), .long a, .retAddr 0, .int (nI t), .int (nI ((2 ^ low (s &&& (s - 1))) ||| t))], [.int (nI (pop ((nb (low s)) &&& ((2 ^ low (s &&& (s - 1))) ||| t)))), .long a], MW A B F true, 0, 0)) rfl ?_
        have hpp := pop_le (s := (nb (low s)) &&& ((2 ^ low (s &&& (s - 1))) ||| t)) (by omega)
        refine wp_go (f' := (86, [.ref 24, .int (nI s), .int (nI (s &&& (s - 1))), .int (nI (nb (low s))), .int (nI (2 ^ low (s &&& (s - 1)))), .int (nI (sd (s &&& (s - 1)) (2 ^ low (s &&& (s - 1))))), .long a, .retAddr 0, .int (nI t), .int (nI ((2 ^ low (s &&& (s - 1))) ||| t))], [.int (nI ((2 ^ low (s &&& (s - 1))) ||| t)), .ref 26, .long ((nI (pop ((nb (low s)) &&& ((2 ^ low (s &&& (s - 1))) ||| t)))).toInt64), .long a], MW A B F true, 0, 0)) 4 rfl ?_
        refine wp_lald rfl rfl (by omega) (by decide) ?_
        refine wp_eq (f' := (87, [.ref 24, .int (nI s), .int (nI (s &&& (s - 1))), .int (nI (nb (low s))), .int (nI (2 ^ low (s &&& (s - 1)))), .int (nI (sd (s &&& (s - 1)) (2 ^ low (s &&& (s - 1))))), .long a, .retAddr 0, .int (nI t), .int (nI ((2 ^ low (s &&& (s - 1))) ||| t))], [.long ((B 25) ((2 ^ low (s &&& (s - 1))) ||| t)), .long ((nI (pop ((nb (low s)) &&& ((2 ^ low (s &&& (s - 1))) ||| t)))).toInt64), .long a], MW A B F true, 0, 0)) rfl ?_
        refine wp_go (f' := (98, [.ref 24, .int (nI s), .int (nI (s &&& (s - 1))), .int (nI (nb (low s))), .int (nI (2 ^ low (s &&& (s - 1)))), .int (nI (sd (s &&& (s - 1)) (2 ^ low (s &&& (s - 1))))), .long a, .retAddr 0, .int (nI t), .int (nI ((2 ^ low (s &&& (s - 1))) ||| t))], [.int ((nI s) &&& ((nI ((2 ^ low (s &&& (s - 1))) ||| t)) ^^^ (-1))), .ref 26, .long (((nI (pop ((nb (low s)) &&& ((2 ^ low (s &&& (s - 1))) ||| t)))).toInt64) * ((B 25) ((2 ^ low (s &&& (s - 1))) ||| t))), .long a], MW A B F true, 0, 0)) 8 rfl ?_
        rw [bx_sd (by omega)]
        have hb4 : sd s ((2 ^ low (s &&& (s - 1))) ||| t) < 1024 := by first | omega | exact or_lt (by omega) (by omega) | exact and_lt (by omega) | exact and_lt_r (by omega) | exact sd_lt (by omega) | exact pow_lt (by omega)
        refine wp_lald rfl rfl (by omega) (by decide) ?_
        refine wp_eq (f' := (99, [.ref 24, .int (nI s), .int (nI (s &&& (s - 1))), .int (nI (nb (low s))), .int (nI (2 ^ low (s &&& (s - 1)))), .int (nI (sd (s &&& (s - 1)) (2 ^ low (s &&& (s - 1))))), .long a, .retAddr 0, .int (nI t), .int (nI ((2 ^ low (s &&& (s - 1))) ||| t))], [.long ((B 25) (sd s ((2 ^ low (s &&& (s - 1))) ||| t))), .long (((nI (pop ((nb (low s)) &&& ((2 ^ low (s &&& (s - 1))) ||| t)))).toInt64) * ((B 25) ((2 ^ low (s &&& (s - 1))) ||| t))), .long a], MW A B F true, 0, 0)) rfl ?_
        refine wp_go (f' := ((if ¬ (nI t) = 0 then 112 else 108), [.ref 24, .int (nI s), .int (nI (s &&& (s - 1))), .int (nI (nb (low s))), .int (nI (2 ^ low (s &&& (s - 1)))), .int (nI (sd (s &&& (s - 1)) (2 ^ low (s &&& (s - 1))))), .long (a + ((((nI (pop ((nb (low s)) &&& ((2 ^ low (s &&& (s - 1))) ||| t)))).toInt64) * ((B 25) ((2 ^ low (s &&& (s - 1))) ||| t))) * ((B 25) (sd s ((2 ^ low (s &&& (s - 1))) ||| t))))), .retAddr 0, .int (nI t), .int (nI ((2 ^ low (s &&& (s - 1))) ||| t))], [], MW A B F true, 0, 0)) 5 rfl ?_
        refine wp_ite (fun _ => ?_) (fun h9 => absurd (fun h8 => ht0 ((nI_eq (a := t) (b := 0) (by omega) (by omega)).mp h8)) h9)
        refine wp_go (f' := (116, [.ref 24, .int (nI s), .int (nI (s &&& (s - 1))), .int (nI (nb (low s))), .int (nI (2 ^ low (s &&& (s - 1)))), .int (nI (sd (s &&& (s - 1)) (2 ^ low (s &&& (s - 1))))), .long (a + ((((nI (pop ((nb (low s)) &&& ((2 ^ low (s &&& (s - 1))) ||| t)))).toInt64) * ((B 25) ((2 ^ low (s &&& (s - 1))) ||| t))) * ((B 25) (sd s ((2 ^ low (s &&& (s - 1))) ||| t))))), .retAddr 0, .int (nI t), .int (nI ((2 ^ low (s &&& (s - 1))) ||| t))], [.int ((nI t) - (nI 1))], MW A B F true, 0, 0)) 3 rfl ?_
        rw [pk_sub (by omega)]
        refine wp_go (f' := (119, [.ref 24, .int (nI s), .int (nI (s &&& (s - 1))), .int (nI (nb (low s))), .int (nI (2 ^ low (s &&& (s - 1)))), .int (nI (sd (s &&& (s - 1)) (2 ^ low (s &&& (s - 1))))), .long (a + ((((nI (pop ((nb (low s)) &&& ((2 ^ low (s &&& (s - 1))) ||| t)))).toInt64) * ((B 25) ((2 ^ low (s &&& (s - 1))) ||| t))) * ((B 25) (sd s ((2 ^ low (s &&& (s - 1))) ||| t))))), .retAddr 0, .int (nI t), .int (nI ((2 ^ low (s &&& (s - 1))) ||| t))], [.int ((nI (t - 1)) &&& (nI (sd (s &&& (s - 1)) (2 ^ low (s &&& (s - 1))))))], MW A B F true, 0, 0)) 2 rfl ?_
        rw [bx_and]
        have hb5 : (t - 1) &&& (sd (s &&& (s - 1)) (2 ^ low (s &&& (s - 1)))) < 1024 := by first | omega | exact or_lt (by omega) (by omega) | exact and_lt (by omega) | exact and_lt_r (by omega) | exact sd_lt (by omega) | exact pow_lt (by omega)
        refine wp_go (f' := (46, [.ref 24, .int (nI s), .int (nI (s &&& (s - 1))), .int (nI (nb (low s))), .int (nI (2 ^ low (s &&& (s - 1)))), .int (nI (sd (s &&& (s - 1)) (2 ^ low (s &&& (s - 1))))), .long (a + ((((nI (pop ((nb (low s)) &&& ((2 ^ low (s &&& (s - 1))) ||| t)))).toInt64) * ((B 25) ((2 ^ low (s &&& (s - 1))) ||| t))) * ((B 25) (sd s ((2 ^ low (s &&& (s - 1))) ||| t))))), .retAddr 0, .int (nI ((t - 1) &&& (sd (s &&& (s - 1)) (2 ^ low (s &&& (s - 1)))))), .int (nI ((2 ^ low (s &&& (s - 1))) ||| t))], [], MW A B F true, 0, 0)) 2 rfl ?_
        have hL : limbC nb (B 25) s t a = a + ((((nI (pop ((nb (low s)) &&& ((2 ^ low (s &&& (s - 1))) ||| t)))).toInt64) * ((B 25) ((2 ^ low (s &&& (s - 1))) ||| t))) * ((B 25) (sd s ((2 ^ low (s &&& (s - 1))) ||| t)))) := by
          have h9 := (fun h8 => h1 ((lg_cmp_eq _ _).mpr h8) : ¬ (B 25) ((2 ^ low (s &&& (s - 1))) ||| t) = 0)
          unfold limbC; rw [if_neg h9]
        rw [hL] at ih3
        exact ih3 _
    · intro e9
      refine wp_go (f' := ((if (nI 0) < 0 then 124 else 51), [.ref 24, .int (nI s), .int (nI (s &&& (s - 1))), .int (nI (nb (low s))), .int (nI (2 ^ low (s &&& (s - 1)))), .int (nI (sd (s &&& (s - 1)) (2 ^ low (s &&& (s - 1))))), .long (subN (limbC nb (B 25) s) (sd (s &&& (s - 1)) (2 ^ low (s &&& (s - 1)))) (sd (s &&& (s - 1)) (2 ^ low (s &&& (s - 1)))) 0), .retAddr 0, .int (nI 0), e9], [], MW A B F true, 0, 0)) 2 rfl ?_
      refine wp_ite (fun h9 => absurd h9 (by decide)) (fun _ => ?_)
      refine wp_go (f' := (56, [.ref 24, .int (nI s), .int (nI (s &&& (s - 1))), .int (nI (nb (low s))), .int (nI (2 ^ low (s &&& (s - 1)))), .int (nI (sd (s &&& (s - 1)) (2 ^ low (s &&& (s - 1))))), .long (subN (limbC nb (B 25) s) (sd (s &&& (s - 1)) (2 ^ low (s &&& (s - 1)))) (sd (s &&& (s - 1)) (2 ^ low (s &&& (s - 1)))) 0), .retAddr 0, .int (nI 0), e9], [.int ((nI (2 ^ low (s &&& (s - 1)))) ||| (nI 0))], MW A B F true, 0, 0)) 3 rfl ?_
      rw [bx_or]
      have hb1 : (2 ^ low (s &&& (s - 1))) ||| 0 < 1024 := by first | omega | exact or_lt (by omega) (by omega) | exact and_lt (by omega) | exact and_lt_r (by omega) | exact sd_lt (by omega) | exact pow_lt (by omega)
      refine wp_go (f' := (64, [.ref 24, .int (nI s), .int (nI (s &&& (s - 1))), .int (nI (nb (low s))), .int (nI (2 ^ low (s &&& (s - 1)))), .int (nI (sd (s &&& (s - 1)) (2 ^ low (s &&& (s - 1))))), .long (subN (limbC nb (B 25) s) (sd (s &&& (s - 1)) (2 ^ low (s &&& (s - 1)))) (sd (s &&& (s - 1)) (2 ^ low (s &&& (s - 1)))) 0), .retAddr 0, .int (nI 0), .int (nI ((2 ^ low (s &&& (s - 1))) ||| 0))], [.int (nI ((2 ^ low (s &&& (s - 1))) ||| 0)), .ref 26], MW A B F true, 0, 0)) 4 rfl ?_
      refine wp_lald rfl rfl (by omega) (by decide) ?_
      refine wp_eq (f' := (65, [.ref 24, .int (nI s), .int (nI (s &&& (s - 1))), .int (nI (nb (low s))), .int (nI (2 ^ low (s &&& (s - 1)))), .int (nI (sd (s &&& (s - 1)) (2 ^ low (s &&& (s - 1))))), .long (subN (limbC nb (B 25) s) (sd (s &&& (s - 1)) (2 ^ low (s &&& (s - 1)))) (sd (s &&& (s - 1)) (2 ^ low (s &&& (s - 1)))) 0), .retAddr 0, .int (nI 0), .int (nI ((2 ^ low (s &&& (s - 1))) ||| 0))], [.long ((B 25) ((2 ^ low (s &&& (s - 1))) ||| 0))], MW A B F true, 0, 0)) rfl ?_
      refine wp_go (f' := ((if (lg_cmp ((B 25) ((2 ^ low (s &&& (s - 1))) ||| 0)) 0) = 0 then 103 else 70), [.ref 24, .int (nI s), .int (nI (s &&& (s - 1))), .int (nI (nb (low s))), .int (nI (2 ^ low (s &&& (s - 1)))), .int (nI (sd (s &&& (s - 1)) (2 ^ low (s &&& (s - 1))))), .long (subN (limbC nb (B 25) s) (sd (s &&& (s - 1)) (2 ^ low (s &&& (s - 1)))) (sd (s &&& (s - 1)) (2 ^ low (s &&& (s - 1)))) 0), .retAddr 0, .int (nI 0), .int (nI ((2 ^ low (s &&& (s - 1))) ||| 0))], [], MW A B F true, 0, 0)) 3 rfl ?_
      refine wp_ite (fun h1 => ?_) (fun h1 => ?_)
      · skip
        refine wp_go (f' := ((if ¬ (nI 0) = 0 then 112 else 108), [.ref 24, .int (nI s), .int (nI (s &&& (s - 1))), .int (nI (nb (low s))), .int (nI (2 ^ low (s &&& (s - 1)))), .int (nI (sd (s &&& (s - 1)) (2 ^ low (s &&& (s - 1))))), .long (subN (limbC nb (B 25) s) (sd (s &&& (s - 1)) (2 ^ low (s &&& (s - 1)))) (sd (s &&& (s - 1)) (2 ^ low (s &&& (s - 1)))) 0), .retAddr 0, .int (nI 0), .int (nI ((2 ^ low (s &&& (s - 1))) ||| 0))], [], MW A B F true, 0, 0)) 2 rfl ?_
        refine wp_ite (fun h9 => absurd h9 (fun h8 => h8 rfl)) (fun _ => ?_)
        refine wp_go (f' := (46, [.ref 24, .int (nI s), .int (nI (s &&& (s - 1))), .int (nI (nb (low s))), .int (nI (2 ^ low (s &&& (s - 1)))), .int (nI (sd (s &&& (s - 1)) (2 ^ low (s &&& (s - 1))))), .long (subN (limbC nb (B 25) s) (sd (s &&& (s - 1)) (2 ^ low (s &&& (s - 1)))) (sd (s &&& (s - 1)) (2 ^ low (s &&& (s - 1)))) 0), .retAddr 0, .int (-1), .int (nI ((2 ^ low (s &&& (s - 1))) ||| 0))], [], MW A B F true, 0, 0)) 4 rfl ?_
        have hL : limbC nb (B 25) s 0 (subN (limbC nb (B 25) s) (sd (s &&& (s - 1)) (2 ^ low (s &&& (s - 1)))) (sd (s &&& (s - 1)) (2 ^ low (s &&& (s - 1)))) 0) = (subN (limbC nb (B 25) s) (sd (s &&& (s - 1)) (2 ^ low (s &&& (s - 1)))) (sd (s &&& (s - 1)) (2 ^ low (s &&& (s - 1)))) 0) := by
          have h9 := (lg_cmp_eq _ _).mp h1
          unfold limbC; rw [if_pos h9]
        rw [← hL]
        rw [show treeC nb (B 25) s = limbC nb (B 25) s 0 (subN (limbC nb (B 25) s) (sd (s &&& (s - 1)) (2 ^ low (s &&& (s - 1)))) (sd (s &&& (s - 1)) (2 ^ low (s &&& (s - 1)))) 0) by unfold treeC; rw [if_neg hr0]; rfl]
        refine wp_go (f' := ((if (-1) < 0 then 124 else 51), [.ref 24, .int (nI s), .int (nI (s &&& (s - 1))), .int (nI (nb (low s))), .int (nI (2 ^ low (s &&& (s - 1)))), .int (nI (sd (s &&& (s - 1)) (2 ^ low (s &&& (s - 1))))), .long (limbC nb (B 25) s 0 (subN (limbC nb (B 25) s) (sd (s &&& (s - 1)) (2 ^ low (s &&& (s - 1)))) (sd (s &&& (s - 1)) (2 ^ low (s &&& (s - 1)))) 0)), .retAddr 0, .int (-1), .int (nI ((2 ^ low (s &&& (s - 1))) ||| 0))], [], MW A B F true, 0, 0)) 2 rfl ?_
        refine wp_ite (fun _ => ?_) (fun h9 => absurd (by decide : (-1 : Int32) < 0) h9)
        refine wp_go (f' := (126, [.ref 24, .int (nI s), .int (nI (s &&& (s - 1))), .int (nI (nb (low s))), .int (nI (2 ^ low (s &&& (s - 1)))), .int (nI (sd (s &&& (s - 1)) (2 ^ low (s &&& (s - 1))))), .long (limbC nb (B 25) s 0 (subN (limbC nb (B 25) s) (sd (s &&& (s - 1)) (2 ^ low (s &&& (s - 1)))) (sd (s &&& (s - 1)) (2 ^ low (s &&& (s - 1)))) 0)), .retAddr 0, .int (-1), .int (nI ((2 ^ low (s &&& (s - 1))) ||| 0))], [.long (limbC nb (B 25) s 0 (subN (limbC nb (B 25) s) (sd (s &&& (s - 1)) (2 ^ low (s &&& (s - 1)))) (sd (s &&& (s - 1)) (2 ^ low (s &&& (s - 1)))) 0))], MW A B F true, 0, 0)) 1 rfl ?_
        exact wp_lret rfl
      · skip
        refine wp_go (f' := (76, [.ref 24, .int (nI s), .int (nI (s &&& (s - 1))), .int (nI (nb (low s))), .int (nI (2 ^ low (s &&& (s - 1)))), .int (nI (sd (s &&& (s - 1)) (2 ^ low (s &&& (s - 1))))), .long (subN (limbC nb (B 25) s) (sd (s &&& (s - 1)) (2 ^ low (s &&& (s - 1)))) (sd (s &&& (s - 1)) (2 ^ low (s &&& (s - 1)))) 0), .retAddr 0, .int (nI 0), .int (nI ((2 ^ low (s &&& (s - 1))) ||| 0))], [.int ((nI (nb (low s))) &&& (nI ((2 ^ low (s &&& (s - 1))) ||| 0))), .long (subN (limbC nb (B 25) s) (sd (s &&& (s - 1)) (2 ^ low (s &&& (s - 1)))) (sd (s &&& (s - 1)) (2 ^ low (s &&& (s - 1)))) 0)], MW A B F true, 0, 0)) 4 rfl ?_
        rw [bx_and]
        have hb2 : (nb (low s)) &&& ((2 ^ low (s &&& (s - 1))) ||| 0) < 1024 := by first | omega | exact or_lt (by omega) (by omega) | exact and_lt (by omega) | exact and_lt_r (by omega) | exact sd_lt (by omega) | exact pow_lt (by omega)
        refine wp_call rfl rfl rfl (ev_up (ev_bitCount (s := (nb (low s)) &&& ((2 ^ low (s &&& (s - 1))) ||| 0)) (by omega) _) (by decide)) ?_
        refine wp_eq (f' := (79, [.ref 24, .int (nI s), .int (nI (s &&& (s - 1))), .int (nI (nb (low s))), .int (nI (2 ^ low (s &&& (s - 1)))), .int (nI (sd (s &&& (s - 1)) (2 ^ low (s &&& (s - 1))))), .long (subN (limbC nb (B 25) s) (sd (s &&& (s - 1)) (2 ^ low (s &&& (s - 1)))) (sd (s &&& (s - 1)) (2 ^ low (s &&& (s - 1)))) 0), .retAddr 0, .int (nI 0), .int (nI ((2 ^ low (s &&& (s - 1))) ||| 0))], [.int (nI (pop ((nb (low s)) &&& ((2 ^ low (s &&& (s - 1))) ||| 0)))), .long (subN (limbC nb (B 25) s) (sd (s &&& (s - 1)) (2 ^ low (s &&& (s - 1)))) (sd (s &&& (s - 1)) (2 ^ low (s &&& (s - 1)))) 0)], MW A B F true, 0, 0)) rfl ?_
        have hpp := pop_le (s := (nb (low s)) &&& ((2 ^ low (s &&& (s - 1))) ||| 0)) (by omega)
        refine wp_go (f' := (86, [.ref 24, .int (nI s), .int (nI (s &&& (s - 1))), .int (nI (nb (low s))), .int (nI (2 ^ low (s &&& (s - 1)))), .int (nI (sd (s &&& (s - 1)) (2 ^ low (s &&& (s - 1))))), .long (subN (limbC nb (B 25) s) (sd (s &&& (s - 1)) (2 ^ low (s &&& (s - 1)))) (sd (s &&& (s - 1)) (2 ^ low (s &&& (s - 1)))) 0), .retAddr 0, .int (nI 0), .int (nI ((2 ^ low (s &&& (s - 1))) ||| 0))], [.int (nI ((2 ^ low (s &&& (s - 1))) ||| 0)), .ref 26, .long ((nI (pop ((nb (low s)) &&& ((2 ^ low (s &&& (s - 1))) ||| 0)))).toInt64), .long (subN (limbC nb (B 25) s) (sd (s &&& (s - 1)) (2 ^ low (s &&& (s - 1)))) (sd (s &&& (s - 1)) (2 ^ low (s &&& (s - 1)))) 0)], MW A B F true, 0, 0)) 4 rfl ?_
        refine wp_lald rfl rfl (by omega) (by decide) ?_
        refine wp_eq (f' := (87, [.ref 24, .int (nI s), .int (nI (s &&& (s - 1))), .int (nI (nb (low s))), .int (nI (2 ^ low (s &&& (s - 1)))), .int (nI (sd (s &&& (s - 1)) (2 ^ low (s &&& (s - 1))))), .long (subN (limbC nb (B 25) s) (sd (s &&& (s - 1)) (2 ^ low (s &&& (s - 1)))) (sd (s &&& (s - 1)) (2 ^ low (s &&& (s - 1)))) 0), .retAddr 0, .int (nI 0), .int (nI ((2 ^ low (s &&& (s - 1))) ||| 0))], [.long ((B 25) ((2 ^ low (s &&& (s - 1))) ||| 0)), .long ((nI (pop ((nb (low s)) &&& ((2 ^ low (s &&& (s - 1))) ||| 0)))).toInt64), .long (subN (limbC nb (B 25) s) (sd (s &&& (s - 1)) (2 ^ low (s &&& (s - 1)))) (sd (s &&& (s - 1)) (2 ^ low (s &&& (s - 1)))) 0)], MW A B F true, 0, 0)) rfl ?_
        refine wp_go (f' := (98, [.ref 24, .int (nI s), .int (nI (s &&& (s - 1))), .int (nI (nb (low s))), .int (nI (2 ^ low (s &&& (s - 1)))), .int (nI (sd (s &&& (s - 1)) (2 ^ low (s &&& (s - 1))))), .long (subN (limbC nb (B 25) s) (sd (s &&& (s - 1)) (2 ^ low (s &&& (s - 1)))) (sd (s &&& (s - 1)) (2 ^ low (s &&& (s - 1)))) 0), .retAddr 0, .int (nI 0), .int (nI ((2 ^ low (s &&& (s - 1))) ||| 0))], [.int ((nI s) &&& ((nI ((2 ^ low (s &&& (s - 1))) ||| 0)) ^^^ (-1))), .ref 26, .long (((nI (pop ((nb (low s)) &&& ((2 ^ low (s &&& (s - 1))) ||| 0)))).toInt64) * ((B 25) ((2 ^ low (s &&& (s - 1))) ||| 0))), .long (subN (limbC nb (B 25) s) (sd (s &&& (s - 1)) (2 ^ low (s &&& (s - 1)))) (sd (s &&& (s - 1)) (2 ^ low (s &&& (s - 1)))) 0)], MW A B F true, 0, 0)) 8 rfl ?_
        rw [bx_sd (by omega)]
        have hb3 : sd s ((2 ^ low (s &&& (s - 1))) ||| 0) < 1024 := by first | omega | exact or_lt (by omega) (by omega) | exact and_lt (by omega) | exact and_lt_r (by omega) | exact sd_lt (by omega) | exact pow_lt (by omega)
        refine wp_lald rfl rfl (by omega) (by decide) ?_
        refine wp_eq (f' := (99, [.ref 24, .int (nI s), .int (nI (s &&& (s - 1))), .int (nI (nb (low s))), .int (nI (2 ^ low (s &&& (s - 1)))), .int (nI (sd (s &&& (s - 1)) (2 ^ low (s &&& (s - 1))))), .long (subN (limbC nb (B 25) s) (sd (s &&& (s - 1)) (2 ^ low (s &&& (s - 1)))) (sd (s &&& (s - 1)) (2 ^ low (s &&& (s - 1)))) 0), .retAddr 0, .int (nI 0), .int (nI ((2 ^ low (s &&& (s - 1))) ||| 0))], [.long ((B 25) (sd s ((2 ^ low (s &&& (s - 1))) ||| 0))), .long (((nI (pop ((nb (low s)) &&& ((2 ^ low (s &&& (s - 1))) ||| 0)))).toInt64) * ((B 25) ((2 ^ low (s &&& (s - 1))) ||| 0))), .long (subN (limbC nb (B 25) s) (sd (s &&& (s - 1)) (2 ^ low (s &&& (s - 1)))) (sd (s &&& (s - 1)) (2 ^ low (s &&& (s - 1)))) 0)], MW A B F true, 0, 0)) rfl ?_
        refine wp_go (f' := ((if ¬ (nI 0) = 0 then 112 else 108), [.ref 24, .int (nI s), .int (nI (s &&& (s - 1))), .int (nI (nb (low s))), .int (nI (2 ^ low (s &&& (s - 1)))), .int (nI (sd (s &&& (s - 1)) (2 ^ low (s &&& (s - 1))))), .long ((subN (limbC nb (B 25) s) (sd (s &&& (s - 1)) (2 ^ low (s &&& (s - 1)))) (sd (s &&& (s - 1)) (2 ^ low (s &&& (s - 1)))) 0) + ((((nI (pop ((nb (low s)) &&& ((2 ^ low (s &&& (s - 1))) ||| 0)))).toInt64) * ((B 25) ((2 ^ low (s &&& (s - 1))) ||| 0))) * ((B 25) (sd s ((2 ^ low (s &&& (s - 1))) ||| 0))))), .retAddr 0, .int (nI 0), .int (nI ((2 ^ low (s &&& (s - 1))) ||| 0))], [], MW A B F true, 0, 0)) 5 rfl ?_
        refine wp_ite (fun h9 => absurd h9 (fun h8 => h8 rfl)) (fun _ => ?_)
        refine wp_go (f' := (46, [.ref 24, .int (nI s), .int (nI (s &&& (s - 1))), .int (nI (nb (low s))), .int (nI (2 ^ low (s &&& (s - 1)))), .int (nI (sd (s &&& (s - 1)) (2 ^ low (s &&& (s - 1))))), .long ((subN (limbC nb (B 25) s) (sd (s &&& (s - 1)) (2 ^ low (s &&& (s - 1)))) (sd (s &&& (s - 1)) (2 ^ low (s &&& (s - 1)))) 0) + ((((nI (pop ((nb (low s)) &&& ((2 ^ low (s &&& (s - 1))) ||| 0)))).toInt64) * ((B 25) ((2 ^ low (s &&& (s - 1))) ||| 0))) * ((B 25) (sd s ((2 ^ low (s &&& (s - 1))) ||| 0))))), .retAddr 0, .int (-1), .int (nI ((2 ^ low (s &&& (s - 1))) ||| 0))], [], MW A B F true, 0, 0)) 4 rfl ?_
        have hL : limbC nb (B 25) s 0 (subN (limbC nb (B 25) s) (sd (s &&& (s - 1)) (2 ^ low (s &&& (s - 1)))) (sd (s &&& (s - 1)) (2 ^ low (s &&& (s - 1)))) 0) = (subN (limbC nb (B 25) s) (sd (s &&& (s - 1)) (2 ^ low (s &&& (s - 1)))) (sd (s &&& (s - 1)) (2 ^ low (s &&& (s - 1)))) 0) + ((((nI (pop ((nb (low s)) &&& ((2 ^ low (s &&& (s - 1))) ||| 0)))).toInt64) * ((B 25) ((2 ^ low (s &&& (s - 1))) ||| 0))) * ((B 25) (sd s ((2 ^ low (s &&& (s - 1))) ||| 0)))) := by
          have h9 := (fun h8 => h1 ((lg_cmp_eq _ _).mpr h8) : ¬ (B 25) ((2 ^ low (s &&& (s - 1))) ||| 0) = 0)
          unfold limbC; rw [if_neg h9]
        rw [← hL]
        rw [show treeC nb (B 25) s = limbC nb (B 25) s 0 (subN (limbC nb (B 25) s) (sd (s &&& (s - 1)) (2 ^ low (s &&& (s - 1)))) (sd (s &&& (s - 1)) (2 ^ low (s &&& (s - 1)))) 0) by unfold treeC; rw [if_neg hr0]; rfl]
        refine wp_go (f' := ((if (-1) < 0 then 124 else 51), [.ref 24, .int (nI s), .int (nI (s &&& (s - 1))), .int (nI (nb (low s))), .int (nI (2 ^ low (s &&& (s - 1)))), .int (nI (sd (s &&& (s - 1)) (2 ^ low (s &&& (s - 1))))), .long (limbC nb (B 25) s 0 (subN (limbC nb (B 25) s) (sd (s &&& (s - 1)) (2 ^ low (s &&& (s - 1)))) (sd (s &&& (s - 1)) (2 ^ low (s &&& (s - 1)))) 0)), .retAddr 0, .int (-1), .int (nI ((2 ^ low (s &&& (s - 1))) ||| 0))], [], MW A B F true, 0, 0)) 2 rfl ?_
        refine wp_ite (fun _ => ?_) (fun h9 => absurd (by decide : (-1 : Int32) < 0) h9)
        refine wp_go (f' := (126, [.ref 24, .int (nI s), .int (nI (s &&& (s - 1))), .int (nI (nb (low s))), .int (nI (2 ^ low (s &&& (s - 1)))), .int (nI (sd (s &&& (s - 1)) (2 ^ low (s &&& (s - 1))))), .long (limbC nb (B 25) s 0 (subN (limbC nb (B 25) s) (sd (s &&& (s - 1)) (2 ^ low (s &&& (s - 1)))) (sd (s &&& (s - 1)) (2 ^ low (s &&& (s - 1)))) 0)), .retAddr 0, .int (-1), .int (nI ((2 ^ low (s &&& (s - 1))) ||| 0))], [.long (limbC nb (B 25) s 0 (subN (limbC nb (B 25) s) (sd (s &&& (s - 1)) (2 ^ low (s &&& (s - 1)))) (sd (s &&& (s - 1)) (2 ^ low (s &&& (s - 1)))) 0))], MW A B F true, 0, 0)) 1 rfl ?_
        exact wp_lret rfl
  · have hr0 : s &&& (s - 1) = 0 := (nI_eq (a := s &&& (s - 1)) (b := 0) (by omega) (by omega)).mp (Classical.not_not.mp hne)
    rw [show treeC nb (B 25) s = 1 by unfold treeC; rw [if_pos hr0]]
    refine wp_go (f' := (11, [.ref 24, .int (nI s), .int (nI (s &&& (s - 1))), .retAddr 0, .retAddr 0, .retAddr 0, .retAddr 0, .retAddr 0, .retAddr 0, .retAddr 0], [.long 1], MW A B F true, 0, 0)) 1 rfl ?_
    exact wp_lret rfl
theorem ev_cTreesOn (hC : CI A F n nb) (hR : RI A n nb) {s : Nat} (hs : s < 2 ^ n) (hs0 : ¬ s = 0) : mv_Ev xs Ls 3 70 [.ref 24, .int (nI s)] (MW A B F sw) (some (.long (treeC nb (B 25) s)), MW A B F sw, 0, 0) := by
  cases sw
  · exact ev_cTreesOn_f hC hR hs hs0
  · exact ev_cTreesOn_t hC hR hs hs0
theorem ev_cTrees_f (hC : CI A F n nb) (hR : RI A n nb) : mv_Ev xs Ls 4 69 [.ref 24] (MW A B F false) (some (.long ((tabN (treeG nb) n (vp_updL (B 25) 0 0)) (2 ^ n - 1))), MW A (upB B 25 (tabN (treeG nb) n (vp_updL (B 25) 0 0))) F false, 0, 0) := by
  refine ev_of_wp rfl rfl rfl ?_
  have hn := hC.1
  have hp := pow10 hn
  have hp1 : 1 ≤ 2 ^ n := Nat.one_le_two_pow
  have hal := all_lt hn
  refine wp_go (f' := (4, [.ref 24, .retAddr 0, .retAddr 0], [.ref 1], MW A B F false, 0, 0)) 2 rfl ?_
  refine wp_call rfl rfl rfl (ev_up (ev_gAll hC) (by decide)) ?_
  refine wp_eq (f' := (7, [.ref 24, .retAddr 0, .retAddr 0], [.int (nI (2 ^ n - 1))], MW A B F false, 0, 0)) rfl ?_
  refine wp_go (f' := (14, [.ref 24, .int (nI (2 ^ n - 1)), .retAddr 0], [.long 0, .int (nI 0), .ref 25], MW A B F false, 0, 0)) 5 rfl ?_
  refine wp_last rfl rfl (by omega) (by decide) ?_
  refine wp_eq (f' := (15, [.ref 24, .int (nI (2 ^ n - 1)), .retAddr 0], [], MW A (upB B 25 (vp_updL (B 25) 0 0)) F false, 0, 0)) rfl ?_
  refine wp_go (f' := (17, [.ref 24, .int (nI (2 ^ n - 1)), .int (nI 1)], [], MW A (upB B 25 (vp_updL (B 25) 0 0)) F false, 0, 0)) 2 rfl ?_
  refine for_ind (P := fun (k : Nat) (f : Nat → Int64) => mv_Wp xs Ls 3 0 false (some .long) mv_c69 (17, [.ref 24, .int (nI (2 ^ n - 1)), .int (nI (k + 1))], [], MW A (upB B 25 f) F false, 0, 0) (some (.long ((tabN (treeG nb) n (vp_updL (B 25) 0 0)) (2 ^ n - 1))), MW A (upB B 25 (tabN (treeG nb) n (vp_updL (B 25) 0 0))) F false, 0, 0)) (f := fun k f => vp_updL f (k + 1) (treeG nb f (k + 1))) (n := 2 ^ n - 1) ?_ (2 ^ n - 1) (vp_updL (B 25) 0 0) (Nat.le_refl _) ?_
  · intro k f hk ih
    refine wp_go (f' := ((if (nI (2 ^ n - 1)) < (nI (k + 1)) then 54 else 22), [.ref 24, .int (nI (2 ^ n - 1)), .int (nI (k + 1))], [], MW A (upB B 25 f) F false, 0, 0)) 3 rfl ?_
    refine wp_ite (fun h9 => absurd h9 (nI_nlt (by omega) (by omega))) (fun _ => ?_)
    refine wp_go (f' := (32, [.ref 24, .int (nI (2 ^ n - 1)), .int (nI (k + 1))], [.int (nI (k + 1)), .ref 1, .int (nI (k + 1)), .ref 25], MW A (upB B 25 f) F false, 0, 0)) 6 rfl ?_
    refine wp_call rfl rfl rfl (ev_up (ev_gHangs hC hR (s := k + 1) (by omega)) (by decide)) ?_
    refine wp_eq (f' := (35, [.ref 24, .int (nI (2 ^ n - 1)), .int (nI (k + 1))], [.int (bI (decide (pcN nb (k + 1) = k + 1))), .int (nI (k + 1)), .ref 25], MW A (upB B 25 f) F false, 0, 0)) rfl ?_
    refine wp_go (f' := ((if (bI (decide (pcN nb (k + 1) = k + 1))) = 0 then 46 else 38), [.ref 24, .int (nI (2 ^ n - 1)), .int (nI (k + 1))], [.int (nI (k + 1)), .ref 25], MW A (upB B 25 f) F false, 0, 0)) 1 rfl ?_
    refine wp_ite (fun h1 => ?_) (fun h1 => ?_)
    · have h1 := bI_0.mp h1
      refine wp_go (f' := (47, [.ref 24, .int (nI (2 ^ n - 1)), .int (nI (k + 1))], [.long 0, .int (nI (k + 1)), .ref 25], MW A (upB B 25 f) F false, 0, 0)) 1 rfl ?_
      refine wp_last rfl rfl (by omega) (by decide) ?_
      refine wp_eq (f' := (48, [.ref 24, .int (nI (2 ^ n - 1)), .int (nI (k + 1))], [], MW A (upB B 25 (vp_updL f (k + 1) 0)) F false, 0, 0)) rfl ?_
      refine wp_go (f' := (51, [.ref 24, .int (nI (2 ^ n - 1)), .int ((nI (k + 1)) + 1)], [], MW A (upB B 25 (vp_updL f (k + 1) 0)) F false, 0, 0)) 1 rfl ?_
      rw [nI_1]
      refine wp_go (f' := (17, [.ref 24, .int (nI (2 ^ n - 1)), .int (nI ((k + 1) + 1))], [], MW A (upB B 25 (vp_updL f (k + 1) 0)) F false, 0, 0)) 1 rfl ?_
      have h9 := of_decide_eq_false h1
      have e9 : treeG nb f (k + 1) = 0 := by unfold treeG; rw [if_neg h9]
      rw [e9] at ih
      exact ih
    · have h1 := bI_n0 h1
      refine wp_go (f' := (40, [.ref 24, .int (nI (2 ^ n - 1)), .int (nI (k + 1))], [.int (nI (k + 1)), .ref 24, .int (nI (k + 1)), .ref 25], MW A (upB B 25 f) F false, 0, 0)) 2 rfl ?_
      refine wp_call rfl rfl rfl (ev_up (ev_cTreesOn (B := upB B 25 f) hC hR (s := k + 1) (by omega) (by omega)) (by decide)) ?_
      refine wp_eq (f' := (43, [.ref 24, .int (nI (2 ^ n - 1)), .int (nI (k + 1))], [.long (treeC nb f (k + 1)), .int (nI (k + 1)), .ref 25], MW A (upB B 25 f) F false, 0, 0)) rfl ?_
      refine wp_go (f' := (47, [.ref 24, .int (nI (2 ^ n - 1)), .int (nI (k + 1))], [.long (treeC nb f (k + 1)), .int (nI (k + 1)), .ref 25], MW A (upB B 25 f) F false, 0, 0)) 1 rfl ?_
      refine wp_last rfl rfl (by omega) (by decide) ?_
      refine wp_eq (f' := (48, [.ref 24, .int (nI (2 ^ n - 1)), .int (nI (k + 1))], [], MW A (upB B 25 (vp_updL f (k + 1) (treeC nb f (k + 1)))) F false, 0, 0)) rfl ?_
      refine wp_go (f' := (51, [.ref 24, .int (nI (2 ^ n - 1)), .int ((nI (k + 1)) + 1)], [], MW A (upB B 25 (vp_updL f (k + 1) (treeC nb f (k + 1)))) F false, 0, 0)) 1 rfl ?_
      rw [nI_1]
      refine wp_go (f' := (17, [.ref 24, .int (nI (2 ^ n - 1)), .int (nI ((k + 1) + 1))], [], MW A (upB B 25 (vp_updL f (k + 1) (treeC nb f (k + 1)))) F false, 0, 0)) 1 rfl ?_
      have h9 := of_decide_eq_true h1
      have e9 : treeG nb f (k + 1) = treeC nb f (k + 1) := by unfold treeG; rw [if_pos h9]
      rw [e9] at ih
      exact ih
  · skip
    refine wp_go (f' := ((if (nI (2 ^ n - 1)) < (nI (2 ^ n - 1 + 1)) then 54 else 22), [.ref 24, .int (nI (2 ^ n - 1)), .int (nI (2 ^ n - 1 + 1))], [], MW A (upB B 25 (tabN (treeG nb) n (vp_updL (B 25) 0 0))) F false, 0, 0)) 3 rfl ?_
    refine wp_ite (fun _ => ?_) (fun h9 => absurd (nI_lt (by omega) (by omega)) h9)
    refine wp_go (f' := (59, [.ref 24, .int (nI (2 ^ n - 1)), .int (nI (2 ^ n - 1 + 1))], [.int (nI (2 ^ n - 1)), .ref 25], MW A (upB B 25 (tabN (treeG nb) n (vp_updL (B 25) 0 0))) F false, 0, 0)) 3 rfl ?_
    refine wp_lald rfl rfl (by omega) (by decide) ?_
    refine wp_eq (f' := (60, [.ref 24, .int (nI (2 ^ n - 1)), .int (nI (2 ^ n - 1 + 1))], [.long ((tabN (treeG nb) n (vp_updL (B 25) 0 0)) (2 ^ n - 1))], MW A (upB B 25 (tabN (treeG nb) n (vp_updL (B 25) 0 0))) F false, 0, 0)) rfl ?_
    exact wp_lret rfl
theorem ev_cTrees_t (hC : CI A F n nb) (hR : RI A n nb) : mv_Ev xs Ls 4 69 [.ref 24] (MW A B F true) (some (.long ((tabN (treeG nb) n (vp_updL (B 25) 0 0)) (2 ^ n - 1))), MW A (upB B 25 (tabN (treeG nb) n (vp_updL (B 25) 0 0))) F true, 0, 0) := by
  refine ev_of_wp rfl rfl rfl ?_
  have hn := hC.1
  have hp := pow10 hn
  have hp1 : 1 ≤ 2 ^ n := Nat.one_le_two_pow
  have hal := all_lt hn
  refine wp_go (f' := (4, [.ref 24, .retAddr 0, .retAddr 0], [.ref 1], MW A B F true, 0, 0)) 2 rfl ?_
  refine wp_call rfl rfl rfl (ev_up (ev_gAll hC) (by decide)) ?_
  refine wp_eq (f' := (7, [.ref 24, .retAddr 0, .retAddr 0], [.int (nI (2 ^ n - 1))], MW A B F true, 0, 0)) rfl ?_
  refine wp_go (f' := (14, [.ref 24, .int (nI (2 ^ n - 1)), .retAddr 0], [.long 0, .int (nI 0), .ref 26], MW A B F true, 0, 0)) 5 rfl ?_
  refine wp_last rfl rfl (by omega) (by decide) ?_
  refine wp_eq (f' := (15, [.ref 24, .int (nI (2 ^ n - 1)), .retAddr 0], [], MW A (upB B 25 (vp_updL (B 25) 0 0)) F true, 0, 0)) rfl ?_
  refine wp_go (f' := (17, [.ref 24, .int (nI (2 ^ n - 1)), .int (nI 1)], [], MW A (upB B 25 (vp_updL (B 25) 0 0)) F true, 0, 0)) 2 rfl ?_
  refine for_ind (P := fun (k : Nat) (f : Nat → Int64) => mv_Wp xs Ls 3 0 false (some .long) mv_c69 (17, [.ref 24, .int (nI (2 ^ n - 1)), .int (nI (k + 1))], [], MW A (upB B 25 f) F true, 0, 0) (some (.long ((tabN (treeG nb) n (vp_updL (B 25) 0 0)) (2 ^ n - 1))), MW A (upB B 25 (tabN (treeG nb) n (vp_updL (B 25) 0 0))) F true, 0, 0)) (f := fun k f => vp_updL f (k + 1) (treeG nb f (k + 1))) (n := 2 ^ n - 1) ?_ (2 ^ n - 1) (vp_updL (B 25) 0 0) (Nat.le_refl _) ?_
  · intro k f hk ih
    refine wp_go (f' := ((if (nI (2 ^ n - 1)) < (nI (k + 1)) then 54 else 22), [.ref 24, .int (nI (2 ^ n - 1)), .int (nI (k + 1))], [], MW A (upB B 25 f) F true, 0, 0)) 3 rfl ?_
    refine wp_ite (fun h9 => absurd h9 (nI_nlt (by omega) (by omega))) (fun _ => ?_)
    refine wp_go (f' := (32, [.ref 24, .int (nI (2 ^ n - 1)), .int (nI (k + 1))], [.int (nI (k + 1)), .ref 1, .int (nI (k + 1)), .ref 26], MW A (upB B 25 f) F true, 0, 0)) 6 rfl ?_
    refine wp_call rfl rfl rfl (ev_up (ev_gHangs hC hR (s := k + 1) (by omega)) (by decide)) ?_
    refine wp_eq (f' := (35, [.ref 24, .int (nI (2 ^ n - 1)), .int (nI (k + 1))], [.int (bI (decide (pcN nb (k + 1) = k + 1))), .int (nI (k + 1)), .ref 26], MW A (upB B 25 f) F true, 0, 0)) rfl ?_
    refine wp_go (f' := ((if (bI (decide (pcN nb (k + 1) = k + 1))) = 0 then 46 else 38), [.ref 24, .int (nI (2 ^ n - 1)), .int (nI (k + 1))], [.int (nI (k + 1)), .ref 26], MW A (upB B 25 f) F true, 0, 0)) 1 rfl ?_
    refine wp_ite (fun h1 => ?_) (fun h1 => ?_)
    · have h1 := bI_0.mp h1
      refine wp_go (f' := (47, [.ref 24, .int (nI (2 ^ n - 1)), .int (nI (k + 1))], [.long 0, .int (nI (k + 1)), .ref 26], MW A (upB B 25 f) F true, 0, 0)) 1 rfl ?_
      refine wp_last rfl rfl (by omega) (by decide) ?_
      refine wp_eq (f' := (48, [.ref 24, .int (nI (2 ^ n - 1)), .int (nI (k + 1))], [], MW A (upB B 25 (vp_updL f (k + 1) 0)) F true, 0, 0)) rfl ?_
      refine wp_go (f' := (51, [.ref 24, .int (nI (2 ^ n - 1)), .int ((nI (k + 1)) + 1)], [], MW A (upB B 25 (vp_updL f (k + 1) 0)) F true, 0, 0)) 1 rfl ?_
      rw [nI_1]
      refine wp_go (f' := (17, [.ref 24, .int (nI (2 ^ n - 1)), .int (nI ((k + 1) + 1))], [], MW A (upB B 25 (vp_updL f (k + 1) 0)) F true, 0, 0)) 1 rfl ?_
      have h9 := of_decide_eq_false h1
      have e9 : treeG nb f (k + 1) = 0 := by unfold treeG; rw [if_neg h9]
      rw [e9] at ih
      exact ih
    · have h1 := bI_n0 h1
      refine wp_go (f' := (40, [.ref 24, .int (nI (2 ^ n - 1)), .int (nI (k + 1))], [.int (nI (k + 1)), .ref 24, .int (nI (k + 1)), .ref 26], MW A (upB B 25 f) F true, 0, 0)) 2 rfl ?_
      refine wp_call rfl rfl rfl (ev_up (ev_cTreesOn (B := upB B 25 f) hC hR (s := k + 1) (by omega) (by omega)) (by decide)) ?_
      refine wp_eq (f' := (43, [.ref 24, .int (nI (2 ^ n - 1)), .int (nI (k + 1))], [.long (treeC nb f (k + 1)), .int (nI (k + 1)), .ref 26], MW A (upB B 25 f) F true, 0, 0)) rfl ?_
      refine wp_go (f' := (47, [.ref 24, .int (nI (2 ^ n - 1)), .int (nI (k + 1))], [.long (treeC nb f (k + 1)), .int (nI (k + 1)), .ref 26], MW A (upB B 25 f) F true, 0, 0)) 1 rfl ?_
      refine wp_last rfl rfl (by omega) (by decide) ?_
      refine wp_eq (f' := (48, [.ref 24, .int (nI (2 ^ n - 1)), .int (nI (k + 1))], [], MW A (upB B 25 (vp_updL f (k + 1) (treeC nb f (k + 1)))) F true, 0, 0)) rfl ?_
      refine wp_go (f' := (51, [.ref 24, .int (nI (2 ^ n - 1)), .int ((nI (k + 1)) + 1)], [], MW A (upB B 25 (vp_updL f (k + 1) (treeC nb f (k + 1)))) F true, 0, 0)) 1 rfl ?_
      rw [nI_1]
      refine wp_go (f' := (17, [.ref 24, .int (nI (2 ^ n - 1)), .int (nI ((k + 1) + 1))], [], MW A (upB B 25 (vp_updL f (k + 1) (treeC nb f (k + 1)))) F true, 0, 0)) 1 rfl ?_
      have h9 := of_decide_eq_true h1
      have e9 : treeG nb f (k + 1) = treeC nb f (k + 1) := by unfold treeG; rw [if_pos h9]
      rw [e9] at ih
      exact ih
  · skip
    refine wp_go (f' := ((if (nI (2 ^ n - 1)) < (nI (2 ^ n - 1 + 1)) then 54 else 22), [.ref 24, .int (nI (2 ^ n - 1)), .int (nI (2 ^ n - 1 + 1))], [], MW A (upB B 25 (tabN (treeG nb) n (vp_updL (B 25) 0 0))) F true, 0, 0)) 3 rfl ?_
    refine wp_ite (fun _ => ?_) (fun h9 => absurd (nI_lt (by omega) (by omega)) h9)
    refine wp_go (f' := (59, [.ref 24, .int (nI (2 ^ n - 1)), .int (nI (2 ^ n - 1 + 1))], [.int (nI (2 ^ n - 1)), .ref 26], MW A (upB B 25 (tabN (treeG nb) n (vp_updL (B 25) 0 0))) F true, 0, 0)) 3 rfl ?_
    refine wp_lald rfl rfl (by omega) (by decide) ?_
    refine wp_eq (f' := (60, [.ref 24, .int (nI (2 ^ n - 1)), .int (nI (2 ^ n - 1 + 1))], [.long ((tabN (treeG nb) n (vp_updL (B 25) 0 0)) (2 ^ n - 1))], MW A (upB B 25 (tabN (treeG nb) n (vp_updL (B 25) 0 0))) F true, 0, 0)) rfl ?_
    exact wp_lret rfl
theorem ev_cTrees (hC : CI A F n nb) (hR : RI A n nb) : mv_Ev xs Ls 4 69 [.ref 24] (MW A B F sw) (some (.long ((tabN (treeG nb) n (vp_updL (B 25) 0 0)) (2 ^ n - 1))), MW A (upB B 25 (tabN (treeG nb) n (vp_updL (B 25) 0 0))) F sw, 0, 0) := by
  cases sw
  · exact ev_cTrees_f hC hR
  · exact ev_cTrees_t hC hR
theorem ev_cForests_f (hC : CI A F n nb) (hR : RI A n nb) : mv_Ev xs Ls 5 71 [.ref 24] (MW A B F false) (some (.long ((tabN (forC (tabN (treeG nb) n (vp_updL (B 25) 0 0))) n (vp_updL (B 26) 0 1)) (2 ^ n - 1))), MW A (upB (upB B 25 (tabN (treeG nb) n (vp_updL (B 25) 0 0))) 26 (tabN (forC (tabN (treeG nb) n (vp_updL (B 25) 0 0))) n (vp_updL (B 26) 0 1))) F false, 0, 0) := by
  refine ev_of_wp rfl rfl rfl ?_
  have hn := hC.1
  have hp := pow10 hn
  have hp1 : 1 ≤ 2 ^ n := Nat.one_le_two_pow
  have hal := all_lt hn
  refine wp_go (f' := (1, [.ref 24, .retAddr 0, .retAddr 0, .retAddr 0, .retAddr 0, .retAddr 0, .retAddr 0], [.ref 24], MW A B F false, 0, 0)) 1 rfl ?_
  refine wp_call rfl rfl rfl (ev_up (ev_cTrees hC hR) (by decide)) ?_
  refine wp_eq (f' := (4, [.ref 24, .retAddr 0, .retAddr 0, .retAddr 0, .retAddr 0, .retAddr 0, .retAddr 0], [.long ((tabN (treeG nb) n (vp_updL (B 25) 0 0)) (2 ^ n - 1))], MW A (upB B 25 (tabN (treeG nb) n (vp_updL (B 25) 0 0))) F false, 0, 0)) rfl ?_
  refine wp_go (f' := (9, [.ref 24, .retAddr 0, .retAddr 0, .retAddr 0, .retAddr 0, .retAddr 0, .retAddr 0], [.ref 1], MW A (upB B 25 (tabN (treeG nb) n (vp_updL (B 25) 0 0))) F false, 0, 0)) 3 rfl ?_
  refine wp_call rfl rfl rfl (ev_up (ev_gAll hC) (by decide)) ?_
  refine wp_eq (f' := (12, [.ref 24, .retAddr 0, .retAddr 0, .retAddr 0, .retAddr 0, .retAddr 0, .retAddr 0], [.int (nI (2 ^ n - 1))], MW A (upB B 25 (tabN (treeG nb) n (vp_updL (B 25) 0 0))) F false, 0, 0)) rfl ?_
  refine wp_go (f' := (19, [.ref 24, .int (nI (2 ^ n - 1)), .retAddr 0, .retAddr 0, .retAddr 0, .retAddr 0, .retAddr 0], [.long 1, .int (nI 0), .ref 26], MW A (upB B 25 (tabN (treeG nb) n (vp_updL (B 25) 0 0))) F false, 0, 0)) 5 rfl ?_
  refine wp_last rfl rfl (by omega) (by decide) ?_
  refine wp_eq (f' := (20, [.ref 24, .int (nI (2 ^ n - 1)), .retAddr 0, .retAddr 0, .retAddr 0, .retAddr 0, .retAddr 0], [], MW A (upB (upB B 25 (tabN (treeG nb) n (vp_updL (B 25) 0 0))) 26 (vp_updL (B 26) 0 1)) F false, 0, 0)) rfl ?_
  refine wp_go (f' := (22, [.ref 24, .int (nI (2 ^ n - 1)), .int (nI 1), .retAddr 0, .retAddr 0, .retAddr 0, .retAddr 0], [], MW A (upB (upB B 25 (tabN (treeG nb) n (vp_updL (B 25) 0 0))) 26 (vp_updL (B 26) 0 1)) F false, 0, 0)) 2 rfl ?_
  refine for_ind (P := fun (k : Nat) (f : Nat → Int64) => ∀ e3 : Value, ∀ e4 : Value, ∀ e5 : Value, ∀ e6 : Value, mv_Wp xs Ls 4 0 false (some .long) mv_c71 (22, [.ref 24, .int (nI (2 ^ n - 1)), .int (nI (k + 1)), e3, e4, e5, e6], [], MW A (upB (upB B 25 (tabN (treeG nb) n (vp_updL (B 25) 0 0))) 26 f) F false, 0, 0) (some (.long ((tabN (forC (tabN (treeG nb) n (vp_updL (B 25) 0 0))) n (vp_updL (B 26) 0 1)) (2 ^ n - 1))), MW A (upB (upB B 25 (tabN (treeG nb) n (vp_updL (B 25) 0 0))) 26 (tabN (forC (tabN (treeG nb) n (vp_updL (B 25) 0 0))) n (vp_updL (B 26) 0 1))) F false, 0, 0)) (f := fun k f => vp_updL f (k + 1) (forC (tabN (treeG nb) n (vp_updL (B 25) 0 0)) f (k + 1))) (n := 2 ^ n - 1) ?_ (2 ^ n - 1) (vp_updL (B 26) 0 1) (Nat.le_refl _) ?_ _ _ _ _
  · intro k f hk ih e3 e4 e5 e6
    refine wp_go (f' := ((if (nI (2 ^ n - 1)) < (nI (k + 1)) then 102 else 27), [.ref 24, .int (nI (2 ^ n - 1)), .int (nI (k + 1)), e3, e4, e5, e6], [], MW A (upB (upB B 25 (tabN (treeG nb) n (vp_updL (B 25) 0 0))) 26 f) F false, 0, 0)) 3 rfl ?_
    refine wp_ite (fun h9 => absurd h9 (nI_nlt (by omega) (by omega))) (fun _ => ?_)
    refine wp_go (f' := (31, [.ref 24, .int (nI (2 ^ n - 1)), .int (nI (k + 1)), e3, e4, e5, e6], [.int ((nI (k + 1)) - (nI 1)), .int (nI (k + 1))], MW A (upB (upB B 25 (tabN (treeG nb) n (vp_updL (B 25) 0 0))) 26 f) F false, 0, 0)) 4 rfl ?_
    rw [pk_sub (by omega)]
    refine wp_go (f' := (32, [.ref 24, .int (nI (2 ^ n - 1)), .int (nI (k + 1)), e3, e4, e5, e6], [.int ((nI (k + 1)) &&& (nI ((k + 1) - 1)))], MW A (upB (upB B 25 (tabN (treeG nb) n (vp_updL (B 25) 0 0))) 26 f) F false, 0, 0)) 1 rfl ?_
    rw [bx_and]
    have hb1 : (k + 1) &&& ((k + 1) - 1) < 1024 := by first | omega | exact or_lt (by omega) (by omega) | exact and_lt (by omega) | exact and_lt_r (by omega) | exact sd_lt (by omega) | exact pow_lt (by omega)
    refine wp_go (f' := (39, [.ref 24, .int (nI (2 ^ n - 1)), .int (nI (k + 1)), .int (nI ((k + 1) &&& ((k + 1) - 1))), .long 0, .retAddr 0, .int (nI ((k + 1) &&& ((k + 1) - 1)))], [], MW A (upB (upB B 25 (tabN (treeG nb) n (vp_updL (B 25) 0 0))) 26 f) F false, 0, 0)) 5 rfl ?_
    have hrk : (k + 1) &&& (k + 1 - 1) ≤ k + 1 - 1 := Nat.and_le_right
    refine sub_ind (P := fun (t : Nat) (a : Int64) => mv_Wp xs Ls 4 0 false (some .long) mv_c71 (39, [.ref 24, .int (nI (2 ^ n - 1)), .int (nI (k + 1)), .int (nI ((k + 1) &&& ((k + 1) - 1))), .long a, .retAddr 0, .int (nI t)], [], MW A (upB (upB B 25 (tabN (treeG nb) n (vp_updL (B 25) 0 0))) 26 f) F false, 0, 0) (some (.long ((tabN (forC (tabN (treeG nb) n (vp_updL (B 25) 0 0))) n (vp_updL (B 26) 0 1)) (2 ^ n - 1))), MW A (upB (upB B 25 (tabN (treeG nb) n (vp_updL (B 25) 0 0))) 26 (tabN (forC (tabN (treeG nb) n (vp_updL (B 25) 0 0))) n (vp_updL (B 26) 0 1))) F false, 0, 0)) (f := fun t a => a + (tabN (treeG nb) n (vp_updL (B 25) 0 0)) (sd (k + 1) t) * f t) (s := (k + 1) &&& ((k + 1) - 1)) ?_ ((k + 1) &&& ((k + 1) - 1)) 0 (by omega) ?_
    · intro t a ht ht0 ih3
      have htm : (t - 1) &&& ((k + 1) &&& ((k + 1) - 1)) ≤ t - 1 := Nat.and_le_left
      refine wp_go (f' := ((if (nI t) < 0 then 88 else 44), [.ref 24, .int (nI (2 ^ n - 1)), .int (nI (k + 1)), .int (nI ((k + 1) &&& ((k + 1) - 1))), .long a, .retAddr 0, .int (nI t)], [], MW A (upB (upB B 25 (tabN (treeG nb) n (vp_updL (B 25) 0 0))) 26 f) F false, 0, 0)) 2 rfl ?_
      refine wp_ite (fun h9 => absurd h9 (ne_m1 ht)) (fun _ => ?_)
      refine wp_go (f' := (56, [.ref 24, .int (nI (2 ^ n - 1)), .int (nI (k + 1)), .int (nI ((k + 1) &&& ((k + 1) - 1))), .long a, .retAddr 0, .int (nI t)], [.int ((nI (k + 1)) &&& ((nI t) ^^^ (-1))), .ref 25, .long a], MW A (upB (upB B 25 (tabN (treeG nb) n (vp_updL (B 25) 0 0))) 26 f) F false, 0, 0)) 8 rfl ?_
      rw [bx_sd (by omega)]
      have hb1 : sd (k + 1) t < 1024 := by first | omega | exact or_lt (by omega) (by omega) | exact and_lt (by omega) | exact and_lt_r (by omega) | exact sd_lt (by omega) | exact pow_lt (by omega)
      refine wp_lald rfl rfl (by omega) (by decide) ?_
      refine wp_eq (f' := (57, [.ref 24, .int (nI (2 ^ n - 1)), .int (nI (k + 1)), .int (nI ((k + 1) &&& ((k + 1) - 1))), .long a, .retAddr 0, .int (nI t)], [.long ((tabN (treeG nb) n (vp_updL (B 25) 0 0)) (sd (k + 1) t)), .long a], MW A (upB (upB B 25 (tabN (treeG nb) n (vp_updL (B 25) 0 0))) 26 f) F false, 0, 0)) rfl ?_
      refine wp_go (f' := (63, [.ref 24, .int (nI (2 ^ n - 1)), .int (nI (k + 1)), .int (nI ((k + 1) &&& ((k + 1) - 1))), .long a, .retAddr 0, .int (nI t)], [.int (nI t), .ref 26, .long ((tabN (treeG nb) n (vp_updL (B 25) 0 0)) (sd (k + 1) t)), .long a], MW A (upB (upB B 25 (tabN (treeG nb) n (vp_updL (B 25) 0 0))) 26 f) F false, 0, 0)) 3 rfl ?_
      refine wp_lald rfl rfl (by omega) (by decide) ?_
      refine wp_eq (f' := (64, [.ref 24, .int (nI (2 ^ n - 1)), .int (nI (k + 1)), .int (nI ((k + 1) &&& ((k + 1) - 1))), .long a, .retAddr 0, .int (nI t)], [.long (f t), .long ((tabN (treeG nb) n (vp_updL (B 25) 0 0)) (sd (k + 1) t)), .long a], MW A (upB (upB B 25 (tabN (treeG nb) n (vp_updL (B 25) 0 0))) 26 f) F false, 0, 0)) rfl ?_
      refine wp_go (f' := ((if ¬ (nI t) = 0 then 77 else 73), [.ref 24, .int (nI (2 ^ n - 1)), .int (nI (k + 1)), .int (nI ((k + 1) &&& ((k + 1) - 1))), .long (a + (((tabN (treeG nb) n (vp_updL (B 25) 0 0)) (sd (k + 1) t)) * (f t))), .retAddr 0, .int (nI t)], [], MW A (upB (upB B 25 (tabN (treeG nb) n (vp_updL (B 25) 0 0))) 26 f) F false, 0, 0)) 5 rfl ?_
      refine wp_ite (fun _ => ?_) (fun h9 => absurd (fun h8 => ht0 ((nI_eq (a := t) (b := 0) (by omega) (by omega)).mp h8)) h9)
      refine wp_go (f' := (81, [.ref 24, .int (nI (2 ^ n - 1)), .int (nI (k + 1)), .int (nI ((k + 1) &&& ((k + 1) - 1))), .long (a + (((tabN (treeG nb) n (vp_updL (B 25) 0 0)) (sd (k + 1) t)) * (f t))), .retAddr 0, .int (nI t)], [.int ((nI t) - (nI 1))], MW A (upB (upB B 25 (tabN (treeG nb) n (vp_updL (B 25) 0 0))) 26 f) F false, 0, 0)) 3 rfl ?_
      rw [pk_sub (by omega)]
      refine wp_go (f' := (83, [.ref 24, .int (nI (2 ^ n - 1)), .int (nI (k + 1)), .int (nI ((k + 1) &&& ((k + 1) - 1))), .long (a + (((tabN (treeG nb) n (vp_updL (B 25) 0 0)) (sd (k + 1) t)) * (f t))), .retAddr 0, .int (nI t)], [.int ((nI (t - 1)) &&& (nI ((k + 1) &&& ((k + 1) - 1))))], MW A (upB (upB B 25 (tabN (treeG nb) n (vp_updL (B 25) 0 0))) 26 f) F false, 0, 0)) 2 rfl ?_
      rw [bx_and]
      have hb2 : (t - 1) &&& ((k + 1) &&& ((k + 1) - 1)) < 1024 := by first | omega | exact or_lt (by omega) (by omega) | exact and_lt (by omega) | exact and_lt_r (by omega) | exact sd_lt (by omega) | exact pow_lt (by omega)
      refine wp_go (f' := (39, [.ref 24, .int (nI (2 ^ n - 1)), .int (nI (k + 1)), .int (nI ((k + 1) &&& ((k + 1) - 1))), .long (a + (((tabN (treeG nb) n (vp_updL (B 25) 0 0)) (sd (k + 1) t)) * (f t))), .retAddr 0, .int (nI ((t - 1) &&& ((k + 1) &&& ((k + 1) - 1))))], [], MW A (upB (upB B 25 (tabN (treeG nb) n (vp_updL (B 25) 0 0))) 26 f) F false, 0, 0)) 2 rfl ?_
      refine wp_eq ?_ (ih3)
      first | rfl | simp []
    · skip
      refine wp_go (f' := ((if (nI 0) < 0 then 88 else 44), [.ref 24, .int (nI (2 ^ n - 1)), .int (nI (k + 1)), .int (nI ((k + 1) &&& ((k + 1) - 1))), .long (subN (fun t a => a + (tabN (treeG nb) n (vp_updL (B 25) 0 0)) (sd (k + 1) t) * f t) ((k + 1) &&& ((k + 1) - 1)) ((k + 1) &&& ((k + 1) - 1)) 0), .retAddr 0, .int (nI 0)], [], MW A (upB (upB B 25 (tabN (treeG nb) n (vp_updL (B 25) 0 0))) 26 f) F false, 0, 0)) 2 rfl ?_
      refine wp_ite (fun h9 => absurd h9 (by decide)) (fun _ => ?_)
      refine wp_go (f' := (56, [.ref 24, .int (nI (2 ^ n - 1)), .int (nI (k + 1)), .int (nI ((k + 1) &&& ((k + 1) - 1))), .long (subN (fun t a => a + (tabN (treeG nb) n (vp_updL (B 25) 0 0)) (sd (k + 1) t) * f t) ((k + 1) &&& ((k + 1) - 1)) ((k + 1) &&& ((k + 1) - 1)) 0), .retAddr 0, .int (nI 0)], [.int ((nI (k + 1)) &&& ((nI 0) ^^^ (-1))), .ref 25, .long (subN (fun t a => a + (tabN (treeG nb) n (vp_updL (B 25) 0 0)) (sd (k + 1) t) * f t) ((k + 1) &&& ((k + 1) - 1)) ((k + 1) &&& ((k + 1) - 1)) 0)], MW A (upB (upB B 25 (tabN (treeG nb) n (vp_updL (B 25) 0 0))) 26 f) F false, 0, 0)) 8 rfl ?_
      rw [bx_sd (by omega)]
      have hb1 : sd (k + 1) 0 < 1024 := by first | omega | exact or_lt (by omega) (by omega) | exact and_lt (by omega) | exact and_lt_r (by omega) | exact sd_lt (by omega) | exact pow_lt (by omega)
      refine wp_lald rfl rfl (by omega) (by decide) ?_
      refine wp_eq (f' := (57, [.ref 24, .int (nI (2 ^ n - 1)), .int (nI (k + 1)), .int (nI ((k + 1) &&& ((k + 1) - 1))), .long (subN (fun t a => a + (tabN (treeG nb) n (vp_updL (B 25) 0 0)) (sd (k + 1) t) * f t) ((k + 1) &&& ((k + 1) - 1)) ((k + 1) &&& ((k + 1) - 1)) 0), .retAddr 0, .int (nI 0)], [.long ((tabN (treeG nb) n (vp_updL (B 25) 0 0)) (sd (k + 1) 0)), .long (subN (fun t a => a + (tabN (treeG nb) n (vp_updL (B 25) 0 0)) (sd (k + 1) t) * f t) ((k + 1) &&& ((k + 1) - 1)) ((k + 1) &&& ((k + 1) - 1)) 0)], MW A (upB (upB B 25 (tabN (treeG nb) n (vp_updL (B 25) 0 0))) 26 f) F false, 0, 0)) rfl ?_
      refine wp_go (f' := (63, [.ref 24, .int (nI (2 ^ n - 1)), .int (nI (k + 1)), .int (nI ((k + 1) &&& ((k + 1) - 1))), .long (subN (fun t a => a + (tabN (treeG nb) n (vp_updL (B 25) 0 0)) (sd (k + 1) t) * f t) ((k + 1) &&& ((k + 1) - 1)) ((k + 1) &&& ((k + 1) - 1)) 0), .retAddr 0, .int (nI 0)], [.int (nI 0), .ref 26, .long ((tabN (treeG nb) n (vp_updL (B 25) 0 0)) (sd (k + 1) 0)), .long (subN (fun t a => a + (tabN (treeG nb) n (vp_updL (B 25) 0 0)) (sd (k + 1) t) * f t) ((k + 1) &&& ((k + 1) - 1)) ((k + 1) &&& ((k + 1) - 1)) 0)], MW A (upB (upB B 25 (tabN (treeG nb) n (vp_updL (B 25) 0 0))) 26 f) F false, 0, 0)) 3 rfl ?_
      refine wp_lald rfl rfl (by omega) (by decide) ?_
      refine wp_eq (f' := (64, [.ref 24, .int (nI (2 ^ n - 1)), .int (nI (k + 1)), .int (nI ((k + 1) &&& ((k + 1) - 1))), .long (subN (fun t a => a + (tabN (treeG nb) n (vp_updL (B 25) 0 0)) (sd (k + 1) t) * f t) ((k + 1) &&& ((k + 1) - 1)) ((k + 1) &&& ((k + 1) - 1)) 0), .retAddr 0, .int (nI 0)], [.long (f 0), .long ((tabN (treeG nb) n (vp_updL (B 25) 0 0)) (sd (k + 1) 0)), .long (subN (fun t a => a + (tabN (treeG nb) n (vp_updL (B 25) 0 0)) (sd (k + 1) t) * f t) ((k + 1) &&& ((k + 1) - 1)) ((k + 1) &&& ((k + 1) - 1)) 0)], MW A (upB (upB B 25 (tabN (treeG nb) n (vp_updL (B 25) 0 0))) 26 f) F false, 0, 0)) rfl ?_
      refine wp_go (f' := ((if ¬ (nI 0) = 0 then 77 else 73), [.ref 24, .int (nI (2 ^ n - 1)), .int (nI (k + 1)), .int (nI ((k + 1) &&& ((k + 1) - 1))), .long ((subN (fun t a => a + (tabN (treeG nb) n (vp_updL (B 25) 0 0)) (sd (k + 1) t) * f t) ((k + 1) &&& ((k + 1) - 1)) ((k + 1) &&& ((k + 1) - 1)) 0) + (((tabN (treeG nb) n (vp_updL (B 25) 0 0)) (sd (k + 1) 0)) * (f 0))), .retAddr 0, .int (nI 0)], [], MW A (upB (upB B 25 (tabN (treeG nb) n (vp_updL (B 25) 0 0))) 26 f) F false, 0, 0)) 5 rfl ?_
      refine wp_ite (fun h9 => absurd h9 (fun h8 => h8 rfl)) (fun _ => ?_)
      refine wp_go (f' := (39, [.ref 24, .int (nI (2 ^ n - 1)), .int (nI (k + 1)), .int (nI ((k + 1) &&& ((k + 1) - 1))), .long ((subN (fun t a => a + (tabN (treeG nb) n (vp_updL (B 25) 0 0)) (sd (k + 1) t) * f t) ((k + 1) &&& ((k + 1) - 1)) ((k + 1) &&& ((k + 1) - 1)) 0) + (((tabN (treeG nb) n (vp_updL (B 25) 0 0)) (sd (k + 1) 0)) * (f 0))), .retAddr 0, .int (-1)], [], MW A (upB (upB B 25 (tabN (treeG nb) n (vp_updL (B 25) 0 0))) 26 f) F false, 0, 0)) 4 rfl ?_
      refine wp_eq (f' := (39, [.ref 24, .int (nI (2 ^ n - 1)), .int (nI (k + 1)), .int (nI ((k + 1) &&& ((k + 1) - 1))), .long (forC (tabN (treeG nb) n (vp_updL (B 25) 0 0)) f (k + 1)), .retAddr 0, .int (-1)], [], MW A (upB (upB B 25 (tabN (treeG nb) n (vp_updL (B 25) 0 0))) 26 f) F false, 0, 0)) ?_ ?_
      · first | rfl | simp []
      · skip
        refine wp_go (f' := ((if (-1) < 0 then 88 else 44), [.ref 24, .int (nI (2 ^ n - 1)), .int (nI (k + 1)), .int (nI ((k + 1) &&& ((k + 1) - 1))), .long (forC (tabN (treeG nb) n (vp_updL (B 25) 0 0)) f (k + 1)), .retAddr 0, .int (-1)], [], MW A (upB (upB B 25 (tabN (treeG nb) n (vp_updL (B 25) 0 0))) 26 f) F false, 0, 0)) 2 rfl ?_
        refine wp_ite (fun _ => ?_) (fun h9 => absurd (by decide : (-1 : Int32) < 0) h9)
        refine wp_go (f' := (95, [.ref 24, .int (nI (2 ^ n - 1)), .int (nI (k + 1)), .int (nI ((k + 1) &&& ((k + 1) - 1))), .long (forC (tabN (treeG nb) n (vp_updL (B 25) 0 0)) f (k + 1)), .retAddr 0, .int (-1)], [.long (forC (tabN (treeG nb) n (vp_updL (B 25) 0 0)) f (k + 1)), .int (nI (k + 1)), .ref 26], MW A (upB (upB B 25 (tabN (treeG nb) n (vp_updL (B 25) 0 0))) 26 f) F false, 0, 0)) 4 rfl ?_
        refine wp_last rfl rfl (by omega) (by decide) ?_
        refine wp_eq (f' := (96, [.ref 24, .int (nI (2 ^ n - 1)), .int (nI (k + 1)), .int (nI ((k + 1) &&& ((k + 1) - 1))), .long (forC (tabN (treeG nb) n (vp_updL (B 25) 0 0)) f (k + 1)), .retAddr 0, .int (-1)], [], MW A (upB (upB B 25 (tabN (treeG nb) n (vp_updL (B 25) 0 0))) 26 (vp_updL f (k + 1) (forC (tabN (treeG nb) n (vp_updL (B 25) 0 0)) f (k + 1)))) F false, 0, 0)) rfl ?_
        refine wp_go (f' := (99, [.ref 24, .int (nI (2 ^ n - 1)), .int ((nI (k + 1)) + 1), .int (nI ((k + 1) &&& ((k + 1) - 1))), .long (forC (tabN (treeG nb) n (vp_updL (B 25) 0 0)) f (k + 1)), .retAddr 0, .int (-1)], [], MW A (upB (upB B 25 (tabN (treeG nb) n (vp_updL (B 25) 0 0))) 26 (vp_updL f (k + 1) (forC (tabN (treeG nb) n (vp_updL (B 25) 0 0)) f (k + 1)))) F false, 0, 0)) 1 rfl ?_
        rw [nI_1]
        refine wp_go (f' := (22, [.ref 24, .int (nI (2 ^ n - 1)), .int (nI ((k + 1) + 1)), .int (nI ((k + 1) &&& ((k + 1) - 1))), .long (forC (tabN (treeG nb) n (vp_updL (B 25) 0 0)) f (k + 1)), .retAddr 0, .int (-1)], [], MW A (upB (upB B 25 (tabN (treeG nb) n (vp_updL (B 25) 0 0))) 26 (vp_updL f (k + 1) (forC (tabN (treeG nb) n (vp_updL (B 25) 0 0)) f (k + 1)))) F false, 0, 0)) 1 rfl ?_
        exact ih (.int (nI ((k + 1) &&& ((k + 1) - 1)))) (.long (forC (tabN (treeG nb) n (vp_updL (B 25) 0 0)) f (k + 1))) (.retAddr 0) (.int (-1))
  · intro e3 e4 e5 e6
    refine wp_go (f' := ((if (nI (2 ^ n - 1)) < (nI (2 ^ n - 1 + 1)) then 102 else 27), [.ref 24, .int (nI (2 ^ n - 1)), .int (nI (2 ^ n - 1 + 1)), e3, e4, e5, e6], [], MW A (upB (upB B 25 (tabN (treeG nb) n (vp_updL (B 25) 0 0))) 26 (tabN (forC (tabN (treeG nb) n (vp_updL (B 25) 0 0))) n (vp_updL (B 26) 0 1))) F false, 0, 0)) 3 rfl ?_
    refine wp_ite (fun _ => ?_) (fun h9 => absurd (nI_lt (by omega) (by omega)) h9)
    refine wp_go (f' := (107, [.ref 24, .int (nI (2 ^ n - 1)), .int (nI (2 ^ n - 1 + 1)), e3, e4, e5, e6], [.int (nI (2 ^ n - 1)), .ref 26], MW A (upB (upB B 25 (tabN (treeG nb) n (vp_updL (B 25) 0 0))) 26 (tabN (forC (tabN (treeG nb) n (vp_updL (B 25) 0 0))) n (vp_updL (B 26) 0 1))) F false, 0, 0)) 3 rfl ?_
    refine wp_lald rfl rfl (by omega) (by decide) ?_
    refine wp_eq (f' := (108, [.ref 24, .int (nI (2 ^ n - 1)), .int (nI (2 ^ n - 1 + 1)), e3, e4, e5, e6], [.long ((tabN (forC (tabN (treeG nb) n (vp_updL (B 25) 0 0))) n (vp_updL (B 26) 0 1)) (2 ^ n - 1))], MW A (upB (upB B 25 (tabN (treeG nb) n (vp_updL (B 25) 0 0))) 26 (tabN (forC (tabN (treeG nb) n (vp_updL (B 25) 0 0))) n (vp_updL (B 26) 0 1))) F false, 0, 0)) rfl ?_
    exact wp_lret rfl
theorem ev_cForests_t (hC : CI A F n nb) (hR : RI A n nb) : mv_Ev xs Ls 5 71 [.ref 24] (MW A B F true) (some (.long ((tabN (forC (tabN (treeG nb) n (vp_updL (B 25) 0 0))) n (vp_updL (B 26) 0 1)) (2 ^ n - 1))), MW A (upB (upB B 25 (tabN (treeG nb) n (vp_updL (B 25) 0 0))) 26 (tabN (forC (tabN (treeG nb) n (vp_updL (B 25) 0 0))) n (vp_updL (B 26) 0 1))) F true, 0, 0) := by
  refine ev_of_wp rfl rfl rfl ?_
  have hn := hC.1
  have hp := pow10 hn
  have hp1 : 1 ≤ 2 ^ n := Nat.one_le_two_pow
  have hal := all_lt hn
  refine wp_go (f' := (1, [.ref 24, .retAddr 0, .retAddr 0, .retAddr 0, .retAddr 0, .retAddr 0, .retAddr 0], [.ref 24], MW A B F true, 0, 0)) 1 rfl ?_
  refine wp_call rfl rfl rfl (ev_up (ev_cTrees hC hR) (by decide)) ?_
  refine wp_eq (f' := (4, [.ref 24, .retAddr 0, .retAddr 0, .retAddr 0, .retAddr 0, .retAddr 0, .retAddr 0], [.long ((tabN (treeG nb) n (vp_updL (B 25) 0 0)) (2 ^ n - 1))], MW A (upB B 25 (tabN (treeG nb) n (vp_updL (B 25) 0 0))) F true, 0, 0)) rfl ?_
  refine wp_go (f' := (9, [.ref 24, .retAddr 0, .retAddr 0, .retAddr 0, .retAddr 0, .retAddr 0, .retAddr 0], [.ref 1], MW A (upB B 25 (tabN (treeG nb) n (vp_updL (B 25) 0 0))) F true, 0, 0)) 3 rfl ?_
  refine wp_call rfl rfl rfl (ev_up (ev_gAll hC) (by decide)) ?_
  refine wp_eq (f' := (12, [.ref 24, .retAddr 0, .retAddr 0, .retAddr 0, .retAddr 0, .retAddr 0, .retAddr 0], [.int (nI (2 ^ n - 1))], MW A (upB B 25 (tabN (treeG nb) n (vp_updL (B 25) 0 0))) F true, 0, 0)) rfl ?_
  refine wp_go (f' := (19, [.ref 24, .int (nI (2 ^ n - 1)), .retAddr 0, .retAddr 0, .retAddr 0, .retAddr 0, .retAddr 0], [.long 1, .int (nI 0), .ref 25], MW A (upB B 25 (tabN (treeG nb) n (vp_updL (B 25) 0 0))) F true, 0, 0)) 5 rfl ?_
  refine wp_last rfl rfl (by omega) (by decide) ?_
  refine wp_eq (f' := (20, [.ref 24, .int (nI (2 ^ n - 1)), .retAddr 0, .retAddr 0, .retAddr 0, .retAddr 0, .retAddr 0], [], MW A (upB (upB B 25 (tabN (treeG nb) n (vp_updL (B 25) 0 0))) 26 (vp_updL (B 26) 0 1)) F true, 0, 0)) rfl ?_
  refine wp_go (f' := (22, [.ref 24, .int (nI (2 ^ n - 1)), .int (nI 1), .retAddr 0, .retAddr 0, .retAddr 0, .retAddr 0], [], MW A (upB (upB B 25 (tabN (treeG nb) n (vp_updL (B 25) 0 0))) 26 (vp_updL (B 26) 0 1)) F true, 0, 0)) 2 rfl ?_
  refine for_ind (P := fun (k : Nat) (f : Nat → Int64) => ∀ e3 : Value, ∀ e4 : Value, ∀ e5 : Value, ∀ e6 : Value, mv_Wp xs Ls 4 0 false (some .long) mv_c71 (22, [.ref 24, .int (nI (2 ^ n - 1)), .int (nI (k + 1)), e3, e4, e5, e6], [], MW A (upB (upB B 25 (tabN (treeG nb) n (vp_updL (B 25) 0 0))) 26 f) F true, 0, 0) (some (.long ((tabN (forC (tabN (treeG nb) n (vp_updL (B 25) 0 0))) n (vp_updL (B 26) 0 1)) (2 ^ n - 1))), MW A (upB (upB B 25 (tabN (treeG nb) n (vp_updL (B 25) 0 0))) 26 (tabN (forC (tabN (treeG nb) n (vp_updL (B 25) 0 0))) n (vp_updL (B 26) 0 1))) F true, 0, 0)) (f := fun k f => vp_updL f (k + 1) (forC (tabN (treeG nb) n (vp_updL (B 25) 0 0)) f (k + 1))) (n := 2 ^ n - 1) ?_ (2 ^ n - 1) (vp_updL (B 26) 0 1) (Nat.le_refl _) ?_ _ _ _ _
  · intro k f hk ih e3 e4 e5 e6
    refine wp_go (f' := ((if (nI (2 ^ n - 1)) < (nI (k + 1)) then 102 else 27), [.ref 24, .int (nI (2 ^ n - 1)), .int (nI (k + 1)), e3, e4, e5, e6], [], MW A (upB (upB B 25 (tabN (treeG nb) n (vp_updL (B 25) 0 0))) 26 f) F true, 0, 0)) 3 rfl ?_
    refine wp_ite (fun h9 => absurd h9 (nI_nlt (by omega) (by omega))) (fun _ => ?_)
    refine wp_go (f' := (31, [.ref 24, .int (nI (2 ^ n - 1)), .int (nI (k + 1)), e3, e4, e5, e6], [.int ((nI (k + 1)) - (nI 1)), .int (nI (k + 1))], MW A (upB (upB B 25 (tabN (treeG nb) n (vp_updL (B 25) 0 0))) 26 f) F true, 0, 0)) 4 rfl ?_
    rw [pk_sub (by omega)]
    refine wp_go (f' := (32, [.ref 24, .int (nI (2 ^ n - 1)), .int (nI (k + 1)), e3, e4, e5, e6], [.int ((nI (k + 1)) &&& (nI ((k + 1) - 1)))], MW A (upB (upB B 25 (tabN (treeG nb) n (vp_updL (B 25) 0 0))) 26 f) F true, 0, 0)) 1 rfl ?_
    rw [bx_and]
    have hb1 : (k + 1) &&& ((k + 1) - 1) < 1024 := by first | omega | exact or_lt (by omega) (by omega) | exact and_lt (by omega) | exact and_lt_r (by omega) | exact sd_lt (by omega) | exact pow_lt (by omega)
    refine wp_go (f' := (39, [.ref 24, .int (nI (2 ^ n - 1)), .int (nI (k + 1)), .int (nI ((k + 1) &&& ((k + 1) - 1))), .long 0, .retAddr 0, .int (nI ((k + 1) &&& ((k + 1) - 1)))], [], MW A (upB (upB B 25 (tabN (treeG nb) n (vp_updL (B 25) 0 0))) 26 f) F true, 0, 0)) 5 rfl ?_
    have hrk : (k + 1) &&& (k + 1 - 1) ≤ k + 1 - 1 := Nat.and_le_right
    refine sub_ind (P := fun (t : Nat) (a : Int64) => mv_Wp xs Ls 4 0 false (some .long) mv_c71 (39, [.ref 24, .int (nI (2 ^ n - 1)), .int (nI (k + 1)), .int (nI ((k + 1) &&& ((k + 1) - 1))), .long a, .retAddr 0, .int (nI t)], [], MW A (upB (upB B 25 (tabN (treeG nb) n (vp_updL (B 25) 0 0))) 26 f) F true, 0, 0) (some (.long ((tabN (forC (tabN (treeG nb) n (vp_updL (B 25) 0 0))) n (vp_updL (B 26) 0 1)) (2 ^ n - 1))), MW A (upB (upB B 25 (tabN (treeG nb) n (vp_updL (B 25) 0 0))) 26 (tabN (forC (tabN (treeG nb) n (vp_updL (B 25) 0 0))) n (vp_updL (B 26) 0 1))) F true, 0, 0)) (f := fun t a => a + (tabN (treeG nb) n (vp_updL (B 25) 0 0)) (sd (k + 1) t) * f t) (s := (k + 1) &&& ((k + 1) - 1)) ?_ ((k + 1) &&& ((k + 1) - 1)) 0 (by omega) ?_
    · intro t a ht ht0 ih3
      have htm : (t - 1) &&& ((k + 1) &&& ((k + 1) - 1)) ≤ t - 1 := Nat.and_le_left
      refine wp_go (f' := ((if (nI t) < 0 then 88 else 44), [.ref 24, .int (nI (2 ^ n - 1)), .int (nI (k + 1)), .int (nI ((k + 1) &&& ((k + 1) - 1))), .long a, .retAddr 0, .int (nI t)], [], MW A (upB (upB B 25 (tabN (treeG nb) n (vp_updL (B 25) 0 0))) 26 f) F true, 0, 0)) 2 rfl ?_
      refine wp_ite (fun h9 => absurd h9 (ne_m1 ht)) (fun _ => ?_)
      refine wp_go (f' := (56, [.ref 24, .int (nI (2 ^ n - 1)), .int (nI (k + 1)), .int (nI ((k + 1) &&& ((k + 1) - 1))), .long a, .retAddr 0, .int (nI t)], [.int ((nI (k + 1)) &&& ((nI t) ^^^ (-1))), .ref 26, .long a], MW A (upB (upB B 25 (tabN (treeG nb) n (vp_updL (B 25) 0 0))) 26 f) F true, 0, 0)) 8 rfl ?_
      rw [bx_sd (by omega)]
      have hb1 : sd (k + 1) t < 1024 := by first | omega | exact or_lt (by omega) (by omega) | exact and_lt (by omega) | exact and_lt_r (by omega) | exact sd_lt (by omega) | exact pow_lt (by omega)
      refine wp_lald rfl rfl (by omega) (by decide) ?_
      refine wp_eq (f' := (57, [.ref 24, .int (nI (2 ^ n - 1)), .int (nI (k + 1)), .int (nI ((k + 1) &&& ((k + 1) - 1))), .long a, .retAddr 0, .int (nI t)], [.long ((tabN (treeG nb) n (vp_updL (B 25) 0 0)) (sd (k + 1) t)), .long a], MW A (upB (upB B 25 (tabN (treeG nb) n (vp_updL (B 25) 0 0))) 26 f) F true, 0, 0)) rfl ?_
      refine wp_go (f' := (63, [.ref 24, .int (nI (2 ^ n - 1)), .int (nI (k + 1)), .int (nI ((k + 1) &&& ((k + 1) - 1))), .long a, .retAddr 0, .int (nI t)], [.int (nI t), .ref 25, .long ((tabN (treeG nb) n (vp_updL (B 25) 0 0)) (sd (k + 1) t)), .long a], MW A (upB (upB B 25 (tabN (treeG nb) n (vp_updL (B 25) 0 0))) 26 f) F true, 0, 0)) 3 rfl ?_
      refine wp_lald rfl rfl (by omega) (by decide) ?_
      refine wp_eq (f' := (64, [.ref 24, .int (nI (2 ^ n - 1)), .int (nI (k + 1)), .int (nI ((k + 1) &&& ((k + 1) - 1))), .long a, .retAddr 0, .int (nI t)], [.long (f t), .long ((tabN (treeG nb) n (vp_updL (B 25) 0 0)) (sd (k + 1) t)), .long a], MW A (upB (upB B 25 (tabN (treeG nb) n (vp_updL (B 25) 0 0))) 26 f) F true, 0, 0)) rfl ?_
      refine wp_go (f' := ((if ¬ (nI t) = 0 then 77 else 73), [.ref 24, .int (nI (2 ^ n - 1)), .int (nI (k + 1)), .int (nI ((k + 1) &&& ((k + 1) - 1))), .long (a + (((tabN (treeG nb) n (vp_updL (B 25) 0 0)) (sd (k + 1) t)) * (f t))), .retAddr 0, .int (nI t)], [], MW A (upB (upB B 25 (tabN (treeG nb) n (vp_updL (B 25) 0 0))) 26 f) F true, 0, 0)) 5 rfl ?_
      refine wp_ite (fun _ => ?_) (fun h9 => absurd (fun h8 => ht0 ((nI_eq (a := t) (b := 0) (by omega) (by omega)).mp h8)) h9)
      refine wp_go (f' := (81, [.ref 24, .int (nI (2 ^ n - 1)), .int (nI (k + 1)), .int (nI ((k + 1) &&& ((k + 1) - 1))), .long (a + (((tabN (treeG nb) n (vp_updL (B 25) 0 0)) (sd (k + 1) t)) * (f t))), .retAddr 0, .int (nI t)], [.int ((nI t) - (nI 1))], MW A (upB (upB B 25 (tabN (treeG nb) n (vp_updL (B 25) 0 0))) 26 f) F true, 0, 0)) 3 rfl ?_
      rw [pk_sub (by omega)]
      refine wp_go (f' := (83, [.ref 24, .int (nI (2 ^ n - 1)), .int (nI (k + 1)), .int (nI ((k + 1) &&& ((k + 1) - 1))), .long (a + (((tabN (treeG nb) n (vp_updL (B 25) 0 0)) (sd (k + 1) t)) * (f t))), .retAddr 0, .int (nI t)], [.int ((nI (t - 1)) &&& (nI ((k + 1) &&& ((k + 1) - 1))))], MW A (upB (upB B 25 (tabN (treeG nb) n (vp_updL (B 25) 0 0))) 26 f) F true, 0, 0)) 2 rfl ?_
      rw [bx_and]
      have hb2 : (t - 1) &&& ((k + 1) &&& ((k + 1) - 1)) < 1024 := by first | omega | exact or_lt (by omega) (by omega) | exact and_lt (by omega) | exact and_lt_r (by omega) | exact sd_lt (by omega) | exact pow_lt (by omega)
      refine wp_go (f' := (39, [.ref 24, .int (nI (2 ^ n - 1)), .int (nI (k + 1)), .int (nI ((k + 1) &&& ((k + 1) - 1))), .long (a + (((tabN (treeG nb) n (vp_updL (B 25) 0 0)) (sd (k + 1) t)) * (f t))), .retAddr 0, .int (nI ((t - 1) &&& ((k + 1) &&& ((k + 1) - 1))))], [], MW A (upB (upB B 25 (tabN (treeG nb) n (vp_updL (B 25) 0 0))) 26 f) F true, 0, 0)) 2 rfl ?_
      refine wp_eq ?_ (ih3)
      first | rfl | simp []
    · skip
      refine wp_go (f' := ((if (nI 0) < 0 then 88 else 44), [.ref 24, .int (nI (2 ^ n - 1)), .int (nI (k + 1)), .int (nI ((k + 1) &&& ((k + 1) - 1))), .long (subN (fun t a => a + (tabN (treeG nb) n (vp_updL (B 25) 0 0)) (sd (k + 1) t) * f t) ((k + 1) &&& ((k + 1) - 1)) ((k + 1) &&& ((k + 1) - 1)) 0), .retAddr 0, .int (nI 0)], [], MW A (upB (upB B 25 (tabN (treeG nb) n (vp_updL (B 25) 0 0))) 26 f) F true, 0, 0)) 2 rfl ?_
      refine wp_ite (fun h9 => absurd h9 (by decide)) (fun _ => ?_)
      refine wp_go (f' := (56, [.ref 24, .int (nI (2 ^ n - 1)), .int (nI (k + 1)), .int (nI ((k + 1) &&& ((k + 1) - 1))), .long (subN (fun t a => a + (tabN (treeG nb) n (vp_updL (B 25) 0 0)) (sd (k + 1) t) * f t) ((k + 1) &&& ((k + 1) - 1)) ((k + 1) &&& ((k + 1) - 1)) 0), .retAddr 0, .int (nI 0)], [.int ((nI (k + 1)) &&& ((nI 0) ^^^ (-1))), .ref 26, .long (subN (fun t a => a + (tabN (treeG nb) n (vp_updL (B 25) 0 0)) (sd (k + 1) t) * f t) ((k + 1) &&& ((k + 1) - 1)) ((k + 1) &&& ((k + 1) - 1)) 0)], MW A (upB (upB B 25 (tabN (treeG nb) n (vp_updL (B 25) 0 0))) 26 f) F true, 0, 0)) 8 rfl ?_
      rw [bx_sd (by omega)]
      have hb1 : sd (k + 1) 0 < 1024 := by first | omega | exact or_lt (by omega) (by omega) | exact and_lt (by omega) | exact and_lt_r (by omega) | exact sd_lt (by omega) | exact pow_lt (by omega)
      refine wp_lald rfl rfl (by omega) (by decide) ?_
      refine wp_eq (f' := (57, [.ref 24, .int (nI (2 ^ n - 1)), .int (nI (k + 1)), .int (nI ((k + 1) &&& ((k + 1) - 1))), .long (subN (fun t a => a + (tabN (treeG nb) n (vp_updL (B 25) 0 0)) (sd (k + 1) t) * f t) ((k + 1) &&& ((k + 1) - 1)) ((k + 1) &&& ((k + 1) - 1)) 0), .retAddr 0, .int (nI 0)], [.long ((tabN (treeG nb) n (vp_updL (B 25) 0 0)) (sd (k + 1) 0)), .long (subN (fun t a => a + (tabN (treeG nb) n (vp_updL (B 25) 0 0)) (sd (k + 1) t) * f t) ((k + 1) &&& ((k + 1) - 1)) ((k + 1) &&& ((k + 1) - 1)) 0)], MW A (upB (upB B 25 (tabN (treeG nb) n (vp_updL (B 25) 0 0))) 26 f) F true, 0, 0)) rfl ?_
      refine wp_go (f' := (63, [.ref 24, .int (nI (2 ^ n - 1)), .int (nI (k + 1)), .int (nI ((k + 1) &&& ((k + 1) - 1))), .long (subN (fun t a => a + (tabN (treeG nb) n (vp_updL (B 25) 0 0)) (sd (k + 1) t) * f t) ((k + 1) &&& ((k + 1) - 1)) ((k + 1) &&& ((k + 1) - 1)) 0), .retAddr 0, .int (nI 0)], [.int (nI 0), .ref 25, .long ((tabN (treeG nb) n (vp_updL (B 25) 0 0)) (sd (k + 1) 0)), .long (subN (fun t a => a + (tabN (treeG nb) n (vp_updL (B 25) 0 0)) (sd (k + 1) t) * f t) ((k + 1) &&& ((k + 1) - 1)) ((k + 1) &&& ((k + 1) - 1)) 0)], MW A (upB (upB B 25 (tabN (treeG nb) n (vp_updL (B 25) 0 0))) 26 f) F true, 0, 0)) 3 rfl ?_
      refine wp_lald rfl rfl (by omega) (by decide) ?_
      refine wp_eq (f' := (64, [.ref 24, .int (nI (2 ^ n - 1)), .int (nI (k + 1)), .int (nI ((k + 1) &&& ((k + 1) - 1))), .long (subN (fun t a => a + (tabN (treeG nb) n (vp_updL (B 25) 0 0)) (sd (k + 1) t) * f t) ((k + 1) &&& ((k + 1) - 1)) ((k + 1) &&& ((k + 1) - 1)) 0), .retAddr 0, .int (nI 0)], [.long (f 0), .long ((tabN (treeG nb) n (vp_updL (B 25) 0 0)) (sd (k + 1) 0)), .long (subN (fun t a => a + (tabN (treeG nb) n (vp_updL (B 25) 0 0)) (sd (k + 1) t) * f t) ((k + 1) &&& ((k + 1) - 1)) ((k + 1) &&& ((k + 1) - 1)) 0)], MW A (upB (upB B 25 (tabN (treeG nb) n (vp_updL (B 25) 0 0))) 26 f) F true, 0, 0)) rfl ?_
      refine wp_go (f' := ((if ¬ (nI 0) = 0 then 77 else 73), [.ref 24, .int (nI (2 ^ n - 1)), .int (nI (k + 1)), .int (nI ((k + 1) &&& ((k + 1) - 1))), .long ((subN (fun t a => a + (tabN (treeG nb) n (vp_updL (B 25) 0 0)) (sd (k + 1) t) * f t) ((k + 1) &&& ((k + 1) - 1)) ((k + 1) &&& ((k + 1) - 1)) 0) + (((tabN (treeG nb) n (vp_updL (B 25) 0 0)) (sd (k + 1) 0)) * (f 0))), .retAddr 0, .int (nI 0)], [], MW A (upB (upB B 25 (tabN (treeG nb) n (vp_updL (B 25) 0 0))) 26 f) F true, 0, 0)) 5 rfl ?_
      refine wp_ite (fun h9 => absurd h9 (fun h8 => h8 rfl)) (fun _ => ?_)
      refine wp_go (f' := (39, [.ref 24, .int (nI (2 ^ n - 1)), .int (nI (k + 1)), .int (nI ((k + 1) &&& ((k + 1) - 1))), .long ((subN (fun t a => a + (tabN (treeG nb) n (vp_updL (B 25) 0 0)) (sd (k + 1) t) * f t) ((k + 1) &&& ((k + 1) - 1)) ((k + 1) &&& ((k + 1) - 1)) 0) + (((tabN (treeG nb) n (vp_updL (B 25) 0 0)) (sd (k + 1) 0)) * (f 0))), .retAddr 0, .int (-1)], [], MW A (upB (upB B 25 (tabN (treeG nb) n (vp_updL (B 25) 0 0))) 26 f) F true, 0, 0)) 4 rfl ?_
      refine wp_eq (f' := (39, [.ref 24, .int (nI (2 ^ n - 1)), .int (nI (k + 1)), .int (nI ((k + 1) &&& ((k + 1) - 1))), .long (forC (tabN (treeG nb) n (vp_updL (B 25) 0 0)) f (k + 1)), .retAddr 0, .int (-1)], [], MW A (upB (upB B 25 (tabN (treeG nb) n (vp_updL (B 25) 0 0))) 26 f) F true, 0, 0)) ?_ ?_
      · first | rfl | simp []
      · skip
        refine wp_go (f' := ((if (-1) < 0 then 88 else 44), [.ref 24, .int (nI (2 ^ n - 1)), .int (nI (k + 1)), .int (nI ((k + 1) &&& ((k + 1) - 1))), .long (forC (tabN (treeG nb) n (vp_updL (B 25) 0 0)) f (k + 1)), .retAddr 0, .int (-1)], [], MW A (upB (upB B 25 (tabN (treeG nb) n (vp_updL (B 25) 0 0))) 26 f) F true, 0, 0)) 2 rfl ?_
        refine wp_ite (fun _ => ?_) (fun h9 => absurd (by decide : (-1 : Int32) < 0) h9)
        refine wp_go (f' := (95, [.ref 24, .int (nI (2 ^ n - 1)), .int (nI (k + 1)), .int (nI ((k + 1) &&& ((k + 1) - 1))), .long (forC (tabN (treeG nb) n (vp_updL (B 25) 0 0)) f (k + 1)), .retAddr 0, .int (-1)], [.long (forC (tabN (treeG nb) n (vp_updL (B 25) 0 0)) f (k + 1)), .int (nI (k + 1)), .ref 25], MW A (upB (upB B 25 (tabN (treeG nb) n (vp_updL (B 25) 0 0))) 26 f) F true, 0, 0)) 4 rfl ?_
        refine wp_last rfl rfl (by omega) (by decide) ?_
        refine wp_eq (f' := (96, [.ref 24, .int (nI (2 ^ n - 1)), .int (nI (k + 1)), .int (nI ((k + 1) &&& ((k + 1) - 1))), .long (forC (tabN (treeG nb) n (vp_updL (B 25) 0 0)) f (k + 1)), .retAddr 0, .int (-1)], [], MW A (upB (upB B 25 (tabN (treeG nb) n (vp_updL (B 25) 0 0))) 26 (vp_updL f (k + 1) (forC (tabN (treeG nb) n (vp_updL (B 25) 0 0)) f (k + 1)))) F true, 0, 0)) rfl ?_
        refine wp_go (f' := (99, [.ref 24, .int (nI (2 ^ n - 1)), .int ((nI (k + 1)) + 1), .int (nI ((k + 1) &&& ((k + 1) - 1))), .long (forC (tabN (treeG nb) n (vp_updL (B 25) 0 0)) f (k + 1)), .retAddr 0, .int (-1)], [], MW A (upB (upB B 25 (tabN (treeG nb) n (vp_updL (B 25) 0 0))) 26 (vp_updL f (k + 1) (forC (tabN (treeG nb) n (vp_updL (B 25) 0 0)) f (k + 1)))) F true, 0, 0)) 1 rfl ?_
        rw [nI_1]
        refine wp_go (f' := (22, [.ref 24, .int (nI (2 ^ n - 1)), .int (nI ((k + 1) + 1)), .int (nI ((k + 1) &&& ((k + 1) - 1))), .long (forC (tabN (treeG nb) n (vp_updL (B 25) 0 0)) f (k + 1)), .retAddr 0, .int (-1)], [], MW A (upB (upB B 25 (tabN (treeG nb) n (vp_updL (B 25) 0 0))) 26 (vp_updL f (k + 1) (forC (tabN (treeG nb) n (vp_updL (B 25) 0 0)) f (k + 1)))) F true, 0, 0)) 1 rfl ?_
        exact ih (.int (nI ((k + 1) &&& ((k + 1) - 1)))) (.long (forC (tabN (treeG nb) n (vp_updL (B 25) 0 0)) f (k + 1))) (.retAddr 0) (.int (-1))
  · intro e3 e4 e5 e6
    refine wp_go (f' := ((if (nI (2 ^ n - 1)) < (nI (2 ^ n - 1 + 1)) then 102 else 27), [.ref 24, .int (nI (2 ^ n - 1)), .int (nI (2 ^ n - 1 + 1)), e3, e4, e5, e6], [], MW A (upB (upB B 25 (tabN (treeG nb) n (vp_updL (B 25) 0 0))) 26 (tabN (forC (tabN (treeG nb) n (vp_updL (B 25) 0 0))) n (vp_updL (B 26) 0 1))) F true, 0, 0)) 3 rfl ?_
    refine wp_ite (fun _ => ?_) (fun h9 => absurd (nI_lt (by omega) (by omega)) h9)
    refine wp_go (f' := (107, [.ref 24, .int (nI (2 ^ n - 1)), .int (nI (2 ^ n - 1 + 1)), e3, e4, e5, e6], [.int (nI (2 ^ n - 1)), .ref 25], MW A (upB (upB B 25 (tabN (treeG nb) n (vp_updL (B 25) 0 0))) 26 (tabN (forC (tabN (treeG nb) n (vp_updL (B 25) 0 0))) n (vp_updL (B 26) 0 1))) F true, 0, 0)) 3 rfl ?_
    refine wp_lald rfl rfl (by omega) (by decide) ?_
    refine wp_eq (f' := (108, [.ref 24, .int (nI (2 ^ n - 1)), .int (nI (2 ^ n - 1 + 1)), e3, e4, e5, e6], [.long ((tabN (forC (tabN (treeG nb) n (vp_updL (B 25) 0 0))) n (vp_updL (B 26) 0 1)) (2 ^ n - 1))], MW A (upB (upB B 25 (tabN (treeG nb) n (vp_updL (B 25) 0 0))) 26 (tabN (forC (tabN (treeG nb) n (vp_updL (B 25) 0 0))) n (vp_updL (B 26) 0 1))) F true, 0, 0)) rfl ?_
    exact wp_lret rfl
theorem ev_cForests (hC : CI A F n nb) (hR : RI A n nb) : mv_Ev xs Ls 5 71 [.ref 24] (MW A B F sw) (some (.long ((tabN (forC (tabN (treeG nb) n (vp_updL (B 25) 0 0))) n (vp_updL (B 26) 0 1)) (2 ^ n - 1))), MW A (upB (upB B 25 (tabN (treeG nb) n (vp_updL (B 25) 0 0))) 26 (tabN (forC (tabN (treeG nb) n (vp_updL (B 25) 0 0))) n (vp_updL (B 26) 0 1))) F sw, 0, 0) := by
  cases sw
  · exact ev_cForests_f hC hR
  · exact ev_cForests_t hC hR
end CC
