section MM
variable {xs : Nat → Int32} {Ls : Nat} {A : Nat → Nat → Int32} {B : Nat → Nat → Int64} {F : Nat → Int32} {sw : Bool} {n : Nat} {nb : Nat → Nat}
theorem ev_products (hM : MI A F n nb) : mv_Ev xs Ls 2 126 [.ref 28] (MW A B F sw) (some (.long ((tabN (prodG (B 39)) n (vp_updL (B 38) 0 1)) (2 ^ n - 1))), MW A (upB B 38 (tabN (prodG (B 39)) n (vp_updL (B 38) 0 1))) F sw, 0, 0) := by
  refine ev_of_wp rfl rfl rfl ?_
  have hn := hM.1
  have hp := pow10 hn
  have hp1 : 1 ≤ 2 ^ n := Nat.one_le_two_pow
  have hal := all_lt hn
  refine wp_go (f' := (6, [.ref 28, .retAddr 0, .retAddr 0, .retAddr 0, .retAddr 0, .retAddr 0], [.long 1, .int (nI 0), .ref 38], MW A B F sw, 0, 0)) 4 rfl ?_
  refine wp_last rfl rfl (by omega) (by decide) ?_
  refine wp_eq (f' := (7, [.ref 28, .retAddr 0, .retAddr 0, .retAddr 0, .retAddr 0, .retAddr 0], [], MW A (upB B 38 (vp_updL (B 38) 0 1)) F sw, 0, 0)) rfl ?_
  refine wp_go (f' := (9, [.ref 28, .int (nI 1), .retAddr 0, .retAddr 0, .retAddr 0, .retAddr 0], [], MW A (upB B 38 (vp_updL (B 38) 0 1)) F sw, 0, 0)) 2 rfl ?_
  refine for_ind (P := fun (k : Nat) (f : Nat → Int64) => ∀ (d2 d3 d4 d5 : Value), mv_Wp xs Ls 1 6 false (some .long) mv_c126 (9, [.ref 28, .int (nI (k + 1)), d2, d3, d4, d5], [], MW A (upB B 38 f) F sw, 0, 0) (some (.long ((tabN (prodG (B 39)) n (vp_updL (B 38) 0 1)) (2 ^ n - 1))), MW A (upB B 38 (tabN (prodG (B 39)) n (vp_updL (B 38) 0 1))) F sw, 0, 0)) (f := fun k f => vp_updL f (k + 1) (prodG (B 39) f (k + 1))) (n := (2 ^ n - 1)) ?_ (2 ^ n - 1) (vp_updL (B 38) 0 1) (Nat.le_refl _) ?_  (.retAddr 0) (.retAddr 0) (.retAddr 0) (.retAddr 0)
  · intro k f hk ih  d2 d3 d4 d5
    refine wp_go (f' := (11, [.ref 28, .int (nI (k + 1)), d2, d3, d4, d5], [.ref 28, .int (nI (k + 1))], MW A (upB B 38 f) F sw, 0, 0)) 2 rfl ?_
    refine wp_call rfl rfl rfl (ev_up (ev_all hM) (by decide)) ?_
    refine wp_eq (f' := (14, [.ref 28, .int (nI (k + 1)), d2, d3, d4, d5], [.int (nI (2 ^ n - 1)), .int (nI (k + 1))], MW A (upB B 38 f) F sw, 0, 0)) rfl ?_
    refine wp_go (f' := ((if (nI (2 ^ n - 1)) < (nI (k + 1)) then 91 else 17), [.ref 28, .int (nI (k + 1)), d2, d3, d4, d5], [], MW A (upB B 38 f) F sw, 0, 0)) 1 rfl ?_
    refine wp_ite (fun h9 => absurd h9 (nI_nlt (by omega) (by omega))) (fun _ => ?_)
    refine wp_go (f' := (19, [.ref 28, .int (nI (k + 1)), d2, d3, d4, d5], [.int (nI (k + 1)), .int (nI 1)], MW A (upB B 38 f) F sw, 0, 0)) 2 rfl ?_
    refine wp_call rfl rfl rfl (ev_up (ev_lowest (s := k + 1) (by omega) (by omega) _) (by decide)) ?_
    refine wp_eq (f' := (22, [.ref 28, .int (nI (k + 1)), d2, d3, d4, d5], [.int (nI (low (k + 1))), .int (nI 1)], MW A (upB B 38 f) F sw, 0, 0)) rfl ?_
    have hlw := low_lt (s := k + 1) (by omega) (by omega)
    refine wp_go (f' := (23, [.ref 28, .int (nI (k + 1)), d2, d3, d4, d5], [.int ((nI 1) <<< ((nI (low (k + 1))) &&& 31))], MW A (upB B 38 f) F sw, 0, 0)) 1 rfl ?_
    rw [bx_one (by omega)]
    have hb1 : 2 ^ (low (k + 1)) < 1024 := by first | omega | exact or_lt (by omega) (by omega) | exact and_lt (by omega) | exact and_lt_r (by omega) | exact sd_lt (by omega) | exact pow_lt (by omega)
    refine wp_go (f' := (29, [.ref 28, .int (nI (k + 1)), .int (nI (2 ^ (low (k + 1)))), .long 0, .retAddr 0, .int (nI (k + 1))], [], MW A (upB B 38 f) F sw, 0, 0)) 5 rfl ?_
    refine sub_ind (P := fun (t : Nat) (a : Int64) => mv_Wp xs Ls 1 6 false (some .long) mv_c126 (29, [.ref 28, .int (nI (k + 1)), .int (nI (2 ^ (low (k + 1)))), .long a, .retAddr 0, .int (nI t)], [], MW A (upB B 38 f) F sw, 0, 0) (some (.long ((tabN (prodG (B 39)) n (vp_updL (B 38) 0 1)) (2 ^ n - 1))), MW A (upB B 38 (tabN (prodG (B 39)) n (vp_updL (B 38) 0 1))) F sw, 0, 0)) (f := fun t a => a + (if ¬ t &&& 2 ^ low (k + 1) = 0 then (B 39) t * f (sd (k + 1) t) else 0)) (s := (k + 1)) ?_ (k + 1) 0 (by omega) ?_
    · intro t a ht ht0 ih2
      refine wp_go (f' := ((if (nI t) ≤ 0 then 78 else 34), [.ref 28, .int (nI (k + 1)), .int (nI (2 ^ (low (k + 1)))), .long a, .retAddr 0, .int (nI t)], [], MW A (upB B 38 f) F sw, 0, 0)) 2 rfl ?_
      refine wp_ite (fun h9 => absurd h9 (fun h8 => ht0 (by have h7 := (nI_leI (a := t) (b := 0) (by omega) (by omega)).mp h8; omega))) (fun _ => ?_)
      refine wp_go (f' := (39, [.ref 28, .int (nI (k + 1)), .int (nI (2 ^ (low (k + 1)))), .long a, .retAddr 0, .int (nI t)], [.int ((nI t) &&& (nI (2 ^ (low (k + 1))))), .long a], MW A (upB B 38 f) F sw, 0, 0)) 4 rfl ?_
      rw [bx_and]
      have hb1 : t &&& (2 ^ (low (k + 1))) < 1024 := by first | omega | exact or_lt (by omega) (by omega) | exact and_lt (by omega) | exact and_lt_r (by omega) | exact sd_lt (by omega) | exact pow_lt (by omega)
      refine wp_go (f' := ((if (nI (t &&& (2 ^ (low (k + 1))))) = 0 then 64 else 42), [.ref 28, .int (nI (k + 1)), .int (nI (2 ^ (low (k + 1)))), .long a, .retAddr 0, .int (nI t)], [.long a], MW A (upB B 38 f) F sw, 0, 0)) 1 rfl ?_
      refine wp_ite (fun h1 => ?_) (fun h1 => ?_)
      · have h1 : t &&& (2 ^ (low (k + 1))) = 0 := (nI_eq (a := t &&& (2 ^ (low (k + 1)))) (b := 0) (by omega) (by omega)).mp h1
        refine wp_go (f' := (71, [.ref 28, .int (nI (k + 1)), .int (nI (2 ^ (low (k + 1)))), .long (a + 0), .retAddr 0, .int (nI t)], [.int ((nI t) - (nI 1))], MW A (upB B 38 f) F sw, 0, 0)) 6 rfl ?_
        rw [pk_sub (by omega)]
        refine wp_go (f' := (73, [.ref 28, .int (nI (k + 1)), .int (nI (2 ^ (low (k + 1)))), .long (a + 0), .retAddr 0, .int (nI t)], [.int ((nI (t - 1)) &&& (nI (k + 1)))], MW A (upB B 38 f) F sw, 0, 0)) 2 rfl ?_
        rw [bx_and]
        have hb2 : (t - 1) &&& (k + 1) < 1024 := by first | omega | exact or_lt (by omega) (by omega) | exact and_lt (by omega) | exact and_lt_r (by omega) | exact sd_lt (by omega) | exact pow_lt (by omega)
        refine wp_go (f' := (29, [.ref 28, .int (nI (k + 1)), .int (nI (2 ^ (low (k + 1)))), .long (a + 0), .retAddr 0, .int (nI ((t - 1) &&& (k + 1)))], [], MW A (upB B 38 f) F sw, 0, 0)) 2 rfl ?_
        refine wp_eq ?_ ih2
        first | (simp [h1]; done) | simp only [h1, if_true, if_false, reduceIte, Bool.false_eq_true]
      · have h1 : ¬ (t &&& (2 ^ (low (k + 1))) = 0) := fun h9 => h1 ((nI_eq (a := t &&& (2 ^ (low (k + 1)))) (b := 0) (by omega) (by omega)).mpr h9)
        refine wp_go (f' := (48, [.ref 28, .int (nI (k + 1)), .int (nI (2 ^ (low (k + 1)))), .long a, .retAddr 0, .int (nI t)], [.int (nI t), .ref 39, .long a], MW A (upB B 38 f) F sw, 0, 0)) 3 rfl ?_
        refine wp_lald rfl rfl (by omega) (by decide) ?_
        refine wp_go (f' := (59, [.ref 28, .int (nI (k + 1)), .int (nI (2 ^ (low (k + 1)))), .long a, .retAddr 0, .int (nI t)], [.int ((nI (k + 1)) &&& ((nI t) ^^^ (-1))), .ref 38, .long ((B 39) t), .long a], MW A (upB B 38 f) F sw, 0, 0)) 7 rfl ?_
        rw [bx_sd (by omega)]
        have hb3 : sd (k + 1) t < 1024 := by first | omega | exact or_lt (by omega) (by omega) | exact and_lt (by omega) | exact and_lt_r (by omega) | exact sd_lt (by omega) | exact pow_lt (by omega)
        refine wp_lald rfl rfl (by omega) (by decide) ?_
        refine wp_eq (f' := (60, [.ref 28, .int (nI (k + 1)), .int (nI (2 ^ (low (k + 1)))), .long a, .retAddr 0, .int (nI t)], [.long (f (sd (k + 1) t)), .long ((B 39) t), .long a], MW A (upB B 38 f) F sw, 0, 0)) rfl ?_
        refine wp_go (f' := (71, [.ref 28, .int (nI (k + 1)), .int (nI (2 ^ (low (k + 1)))), .long (a + (((B 39) t) * (f (sd (k + 1) t)))), .retAddr 0, .int (nI t)], [.int ((nI t) - (nI 1))], MW A (upB B 38 f) F sw, 0, 0)) 7 rfl ?_
        rw [pk_sub (by omega)]
        refine wp_go (f' := (73, [.ref 28, .int (nI (k + 1)), .int (nI (2 ^ (low (k + 1)))), .long (a + (((B 39) t) * (f (sd (k + 1) t)))), .retAddr 0, .int (nI t)], [.int ((nI (t - 1)) &&& (nI (k + 1)))], MW A (upB B 38 f) F sw, 0, 0)) 2 rfl ?_
        rw [bx_and]
        have hb4 : (t - 1) &&& (k + 1) < 1024 := by first | omega | exact or_lt (by omega) (by omega) | exact and_lt (by omega) | exact and_lt_r (by omega) | exact sd_lt (by omega) | exact pow_lt (by omega)
        refine wp_go (f' := (29, [.ref 28, .int (nI (k + 1)), .int (nI (2 ^ (low (k + 1)))), .long (a + (((B 39) t) * (f (sd (k + 1) t)))), .retAddr 0, .int (nI ((t - 1) &&& (k + 1)))], [], MW A (upB B 38 f) F sw, 0, 0)) 2 rfl ?_
        refine wp_eq ?_ ih2
        first | (simp [h1]; done) | simp only [h1, if_true, if_false, reduceIte, Bool.false_eq_true]
    · skip
      refine wp_go (f' := ((if (nI 0) ≤ 0 then 78 else 34), [.ref 28, .int (nI (k + 1)), .int (nI (2 ^ (low (k + 1)))), .long (prodG (B 39) f (k + 1)), .retAddr 0, .int (nI 0)], [], MW A (upB B 38 f) F sw, 0, 0)) 2 rfl ?_
      refine wp_ite (fun _ => ?_) (fun h9 => absurd (by decide : nI 0 ≤ 0) h9)
      refine wp_go (f' := (84, [.ref 28, .int (nI (k + 1)), .int (nI (2 ^ (low (k + 1)))), .long (prodG (B 39) f (k + 1)), .retAddr 0, .int (nI 0)], [.long (prodG (B 39) f (k + 1)), .int (nI (k + 1)), .ref 38], MW A (upB B 38 f) F sw, 0, 0)) 4 rfl ?_
      refine wp_last rfl rfl (by omega) (by decide) ?_
      refine wp_eq (f' := (85, [.ref 28, .int (nI (k + 1)), .int (nI (2 ^ (low (k + 1)))), .long (prodG (B 39) f (k + 1)), .retAddr 0, .int (nI 0)], [], MW A (upB B 38 (vp_updL f (k + 1) (prodG (B 39) f (k + 1)))) F sw, 0, 0)) rfl ?_
      refine wp_go (f' := (88, [.ref 28, .int ((nI (k + 1)) + 1), .int (nI (2 ^ (low (k + 1)))), .long (prodG (B 39) f (k + 1)), .retAddr 0, .int (nI 0)], [], MW A (upB B 38 (vp_updL f (k + 1) (prodG (B 39) f (k + 1)))) F sw, 0, 0)) 1 rfl ?_
      rw [nI_1]
      refine wp_go (f' := (9, [.ref 28, .int (nI ((k + 1) + 1)), .int (nI (2 ^ (low (k + 1)))), .long (prodG (B 39) f (k + 1)), .retAddr 0, .int (nI 0)], [], MW A (upB B 38 (vp_updL f (k + 1) (prodG (B 39) f (k + 1)))) F sw, 0, 0)) 1 rfl ?_
      exact ih (.int (nI (2 ^ (low (k + 1))))) (.long (prodG (B 39) f (k + 1))) (.retAddr 0) (.int (nI 0))
  · intro  d2 d3 d4 d5
    refine wp_go (f' := (11, [.ref 28, .int (nI (2 ^ n - 1 + 1)), d2, d3, d4, d5], [.ref 28, .int (nI (2 ^ n - 1 + 1))], MW A (upB B 38 (tabN (prodG (B 39)) n (vp_updL (B 38) 0 1))) F sw, 0, 0)) 2 rfl ?_
    refine wp_call rfl rfl rfl (ev_up (ev_all hM) (by decide)) ?_
    refine wp_eq (f' := (14, [.ref 28, .int (nI (2 ^ n - 1 + 1)), d2, d3, d4, d5], [.int (nI (2 ^ n - 1)), .int (nI (2 ^ n - 1 + 1))], MW A (upB B 38 (tabN (prodG (B 39)) n (vp_updL (B 38) 0 1))) F sw, 0, 0)) rfl ?_
    refine wp_go (f' := ((if (nI (2 ^ n - 1)) < (nI (2 ^ n - 1 + 1)) then 91 else 17), [.ref 28, .int (nI (2 ^ n - 1 + 1)), d2, d3, d4, d5], [], MW A (upB B 38 (tabN (prodG (B 39)) n (vp_updL (B 38) 0 1))) F sw, 0, 0)) 1 rfl ?_
    refine wp_ite (fun _ => ?_) (fun h9 => absurd (nI_lt (by omega) (by omega)) h9)
    refine wp_go (f' := (96, [.ref 28, .int (nI (2 ^ n - 1 + 1)), d2, d3, d4, d5], [.ref 28, .ref 38], MW A (upB B 38 (tabN (prodG (B 39)) n (vp_updL (B 38) 0 1))) F sw, 0, 0)) 3 rfl ?_
    refine wp_call rfl rfl rfl (ev_up (ev_all hM) (by decide)) ?_
    refine wp_eq (f' := (99, [.ref 28, .int (nI (2 ^ n - 1 + 1)), d2, d3, d4, d5], [.int (nI (2 ^ n - 1)), .ref 38], MW A (upB B 38 (tabN (prodG (B 39)) n (vp_updL (B 38) 0 1))) F sw, 0, 0)) rfl ?_
    refine wp_lald rfl rfl (by omega) (by decide) ?_
    refine wp_eq (f' := (100, [.ref 28, .int (nI (2 ^ n - 1 + 1)), d2, d3, d4, d5], [.long ((tabN (prodG (B 39)) n (vp_updL (B 38) 0 1)) (2 ^ n - 1))], MW A (upB B 38 (tabN (prodG (B 39)) n (vp_updL (B 38) 0 1))) F sw, 0, 0)) rfl ?_
    exact wp_lret rfl
theorem ev_directions (hM : MI A F n nb) : mv_Ev xs Ls 2 129 [.ref 28] (MW A B F sw) (some (.long ((tabN (dirG n nb) n (vp_updL (B 38) 0 1)) (2 ^ n - 1))), MW A (upB B 38 (tabN (dirG n nb) n (vp_updL (B 38) 0 1))) F sw, 0, 0) := by
  refine ev_of_wp rfl rfl rfl ?_
  have hn := hM.1
  have hp := pow10 hn
  have hp1 : 1 ≤ 2 ^ n := Nat.one_le_two_pow
  have hal := all_lt hn
  refine wp_go (f' := (6, [.ref 28, .retAddr 0, .retAddr 0, .retAddr 0, .retAddr 0], [.long 1, .int (nI 0), .ref 38], MW A B F sw, 0, 0)) 4 rfl ?_
  refine wp_last rfl rfl (by omega) (by decide) ?_
  refine wp_eq (f' := (7, [.ref 28, .retAddr 0, .retAddr 0, .retAddr 0, .retAddr 0], [], MW A (upB B 38 (vp_updL (B 38) 0 1)) F sw, 0, 0)) rfl ?_
  refine wp_go (f' := (9, [.ref 28, .int (nI 1), .retAddr 0, .retAddr 0, .retAddr 0], [], MW A (upB B 38 (vp_updL (B 38) 0 1)) F sw, 0, 0)) 2 rfl ?_
  refine for_ind (P := fun (k : Nat) (f : Nat → Int64) => ∀ (d2 d3 d4 : Value), mv_Wp xs Ls 1 6 false (some .long) mv_c129 (9, [.ref 28, .int (nI (k + 1)), d2, d3, d4], [], MW A (upB B 38 f) F sw, 0, 0) (some (.long ((tabN (dirG n nb) n (vp_updL (B 38) 0 1)) (2 ^ n - 1))), MW A (upB B 38 (tabN (dirG n nb) n (vp_updL (B 38) 0 1))) F sw, 0, 0)) (f := fun k f => vp_updL f (k + 1) (dirG n nb f (k + 1))) (n := (2 ^ n - 1)) ?_ (2 ^ n - 1) (vp_updL (B 38) 0 1) (Nat.le_refl _) ?_  (.retAddr 0) (.retAddr 0) (.retAddr 0)
  · intro k f hk ih  d2 d3 d4
    refine wp_go (f' := (11, [.ref 28, .int (nI (k + 1)), d2, d3, d4], [.ref 28, .int (nI (k + 1))], MW A (upB B 38 f) F sw, 0, 0)) 2 rfl ?_
    refine wp_call rfl rfl rfl (ev_up (ev_all hM) (by decide)) ?_
    refine wp_eq (f' := (14, [.ref 28, .int (nI (k + 1)), d2, d3, d4], [.int (nI (2 ^ n - 1)), .int (nI (k + 1))], MW A (upB B 38 f) F sw, 0, 0)) rfl ?_
    refine wp_go (f' := ((if (nI (2 ^ n - 1)) < (nI (k + 1)) then 104 else 17), [.ref 28, .int (nI (k + 1)), d2, d3, d4], [], MW A (upB B 38 f) F sw, 0, 0)) 1 rfl ?_
    refine wp_ite (fun h9 => absurd h9 (nI_nlt (by omega) (by omega))) (fun _ => ?_)
    refine wp_go (f' := (22, [.ref 28, .int (nI (k + 1)), .long 0, .retAddr 0, .int (nI (k + 1))], [], MW A (upB B 38 f) F sw, 0, 0)) 4 rfl ?_
    refine sub_ind (P := fun (t : Nat) (a : Int64) => mv_Wp xs Ls 1 6 false (some .long) mv_c129 (22, [.ref 28, .int (nI (k + 1)), .long a, .retAddr 0, .int (nI t)], [], MW A (upB B 38 f) F sw, 0, 0) (some (.long ((tabN (dirG n nb) n (vp_updL (B 38) 0 1)) (2 ^ n - 1))), MW A (upB B 38 (tabN (dirG n nb) n (vp_updL (B 38) 0 1))) F sw, 0, 0)) (f := fun t a => a + (if apartN n nb t then (if pop t &&& 1 = 1 then f (sd (k + 1) t) else - f (sd (k + 1) t)) else 0)) (s := (k + 1)) ?_ (k + 1) 0 (by omega) ?_
    · intro t a ht ht0 ih2
      refine wp_go (f' := ((if (nI t) ≤ 0 then 91 else 27), [.ref 28, .int (nI (k + 1)), .long a, .retAddr 0, .int (nI t)], [], MW A (upB B 38 f) F sw, 0, 0)) 2 rfl ?_
      refine wp_ite (fun h9 => absurd h9 (fun h8 => ht0 (by have h7 := (nI_leI (a := t) (b := 0) (by omega) (by omega)).mp h8; omega))) (fun _ => ?_)
      refine wp_go (f' := (31, [.ref 28, .int (nI (k + 1)), .long a, .retAddr 0, .int (nI t)], [.int (nI t), .ref 28, .long a], MW A (upB B 38 f) F sw, 0, 0)) 3 rfl ?_
      refine wp_call rfl rfl rfl (ev_up (ev_isApart hM (s := t) (by omega)) (by decide)) ?_
      refine wp_eq (f' := (34, [.ref 28, .int (nI (k + 1)), .long a, .retAddr 0, .int (nI t)], [.int (bI (apartN n nb t)), .long a], MW A (upB B 38 f) F sw, 0, 0)) rfl ?_
      refine wp_go (f' := ((if (bI (apartN n nb t)) = 0 then 77 else 37), [.ref 28, .int (nI (k + 1)), .long a, .retAddr 0, .int (nI t)], [.long a], MW A (upB B 38 f) F sw, 0, 0)) 1 rfl ?_
      refine wp_ite (fun h1 => ?_) (fun h1 => ?_)
      · have h1 := bI_0.mp h1
        refine wp_go (f' := (84, [.ref 28, .int (nI (k + 1)), .long (a + 0), .retAddr 0, .int (nI t)], [.int ((nI t) - (nI 1))], MW A (upB B 38 f) F sw, 0, 0)) 6 rfl ?_
        rw [pk_sub (by omega)]
        refine wp_go (f' := (86, [.ref 28, .int (nI (k + 1)), .long (a + 0), .retAddr 0, .int (nI t)], [.int ((nI (t - 1)) &&& (nI (k + 1)))], MW A (upB B 38 f) F sw, 0, 0)) 2 rfl ?_
        rw [bx_and]
        have hb1 : (t - 1) &&& (k + 1) < 1024 := by first | omega | exact or_lt (by omega) (by omega) | exact and_lt (by omega) | exact and_lt_r (by omega) | exact sd_lt (by omega) | exact pow_lt (by omega)
        refine wp_go (f' := (22, [.ref 28, .int (nI (k + 1)), .long (a + 0), .retAddr 0, .int (nI ((t - 1) &&& (k + 1)))], [], MW A (upB B 38 f) F sw, 0, 0)) 2 rfl ?_
        refine wp_eq ?_ ih2
        first | (simp [h1]; done) | simp only [h1, if_true, if_false, reduceIte, Bool.false_eq_true]
      · have h1 := bI_n0 h1
        refine wp_go (f' := (39, [.ref 28, .int (nI (k + 1)), .long a, .retAddr 0, .int (nI t)], [.int (nI t), .long a], MW A (upB B 38 f) F sw, 0, 0)) 1 rfl ?_
        refine wp_call rfl rfl rfl (ev_up (ev_onesN (s := t) (by omega) _) (by decide)) ?_
        refine wp_eq (f' := (42, [.ref 28, .int (nI (k + 1)), .long a, .retAddr 0, .int (nI t)], [.int (nI (pop t)), .long a], MW A (upB B 38 f) F sw, 0, 0)) rfl ?_
        have hpp := pop_le (s := t) (by omega)
        refine wp_go (f' := (44, [.ref 28, .int (nI (k + 1)), .long a, .retAddr 0, .int (nI t)], [.int ((nI (pop t)) &&& (nI 1)), .long a], MW A (upB B 38 f) F sw, 0, 0)) 2 rfl ?_
        rw [bx_and]
        have hb2 : (pop t) &&& 1 < 1024 := by first | omega | exact or_lt (by omega) (by omega) | exact and_lt (by omega) | exact and_lt_r (by omega) | exact sd_lt (by omega) | exact pow_lt (by omega)
        refine wp_go (f' := ((if ¬ (nI ((pop t) &&& 1)) = (nI 1) then 62 else 48), [.ref 28, .int (nI (k + 1)), .long a, .retAddr 0, .int (nI t)], [.long a], MW A (upB B 38 f) F sw, 0, 0)) 2 rfl ?_
        refine wp_ite (fun h2 => ?_) (fun h2 => ?_)
        · have h2 : ¬ ((pop t) &&& 1 = 1) := fun h9 => h2 ((nI_eq (a := (pop t) &&& 1) (b := 1) (by omega) (by omega)).mpr h9)
          refine wp_go (f' := (72, [.ref 28, .int (nI (k + 1)), .long a, .retAddr 0, .int (nI t)], [.int ((nI (k + 1)) &&& ((nI t) ^^^ (-1))), .ref 38, .long a], MW A (upB B 38 f) F sw, 0, 0)) 7 rfl ?_
          rw [bx_sd (by omega)]
          have hb3 : sd (k + 1) t < 1024 := by first | omega | exact or_lt (by omega) (by omega) | exact and_lt (by omega) | exact and_lt_r (by omega) | exact sd_lt (by omega) | exact pow_lt (by omega)
          refine wp_lald rfl rfl (by omega) (by decide) ?_
          refine wp_eq (f' := (73, [.ref 28, .int (nI (k + 1)), .long a, .retAddr 0, .int (nI t)], [.long (f (sd (k + 1) t)), .long a], MW A (upB B 38 f) F sw, 0, 0)) rfl ?_
          refine wp_go (f' := (84, [.ref 28, .int (nI (k + 1)), .long (a + (-(f (sd (k + 1) t)))), .retAddr 0, .int (nI t)], [.int ((nI t) - (nI 1))], MW A (upB B 38 f) F sw, 0, 0)) 7 rfl ?_
          rw [pk_sub (by omega)]
          refine wp_go (f' := (86, [.ref 28, .int (nI (k + 1)), .long (a + (-(f (sd (k + 1) t)))), .retAddr 0, .int (nI t)], [.int ((nI (t - 1)) &&& (nI (k + 1)))], MW A (upB B 38 f) F sw, 0, 0)) 2 rfl ?_
          rw [bx_and]
          have hb4 : (t - 1) &&& (k + 1) < 1024 := by first | omega | exact or_lt (by omega) (by omega) | exact and_lt (by omega) | exact and_lt_r (by omega) | exact sd_lt (by omega) | exact pow_lt (by omega)
          refine wp_go (f' := (22, [.ref 28, .int (nI (k + 1)), .long (a + (-(f (sd (k + 1) t)))), .retAddr 0, .int (nI ((t - 1) &&& (k + 1)))], [], MW A (upB B 38 f) F sw, 0, 0)) 2 rfl ?_
          refine wp_eq ?_ ih2
          first | (simp [h1, h2]; done) | simp only [h1, h2, if_true, if_false, reduceIte, Bool.false_eq_true]
        · have h2 := Classical.not_not.mp h2; have h2 : (pop t) &&& 1 = 1 := (nI_eq (a := (pop t) &&& 1) (b := 1) (by omega) (by omega)).mp h2
          refine wp_go (f' := (58, [.ref 28, .int (nI (k + 1)), .long a, .retAddr 0, .int (nI t)], [.int ((nI (k + 1)) &&& ((nI t) ^^^ (-1))), .ref 38, .long a], MW A (upB B 38 f) F sw, 0, 0)) 7 rfl ?_
          rw [bx_sd (by omega)]
          have hb5 : sd (k + 1) t < 1024 := by first | omega | exact or_lt (by omega) (by omega) | exact and_lt (by omega) | exact and_lt_r (by omega) | exact sd_lt (by omega) | exact pow_lt (by omega)
          refine wp_lald rfl rfl (by omega) (by decide) ?_
          refine wp_eq (f' := (59, [.ref 28, .int (nI (k + 1)), .long a, .retAddr 0, .int (nI t)], [.long (f (sd (k + 1) t)), .long a], MW A (upB B 38 f) F sw, 0, 0)) rfl ?_
          refine wp_go (f' := (84, [.ref 28, .int (nI (k + 1)), .long (a + (f (sd (k + 1) t))), .retAddr 0, .int (nI t)], [.int ((nI t) - (nI 1))], MW A (upB B 38 f) F sw, 0, 0)) 6 rfl ?_
          rw [pk_sub (by omega)]
          refine wp_go (f' := (86, [.ref 28, .int (nI (k + 1)), .long (a + (f (sd (k + 1) t))), .retAddr 0, .int (nI t)], [.int ((nI (t - 1)) &&& (nI (k + 1)))], MW A (upB B 38 f) F sw, 0, 0)) 2 rfl ?_
          rw [bx_and]
          have hb6 : (t - 1) &&& (k + 1) < 1024 := by first | omega | exact or_lt (by omega) (by omega) | exact and_lt (by omega) | exact and_lt_r (by omega) | exact sd_lt (by omega) | exact pow_lt (by omega)
          refine wp_go (f' := (22, [.ref 28, .int (nI (k + 1)), .long (a + (f (sd (k + 1) t))), .retAddr 0, .int (nI ((t - 1) &&& (k + 1)))], [], MW A (upB B 38 f) F sw, 0, 0)) 2 rfl ?_
          refine wp_eq ?_ ih2
          first | (simp [h1, h2]; done) | simp only [h1, h2, if_true, if_false, reduceIte, Bool.false_eq_true]
    · skip
      refine wp_go (f' := ((if (nI 0) ≤ 0 then 91 else 27), [.ref 28, .int (nI (k + 1)), .long (dirG n nb f (k + 1)), .retAddr 0, .int (nI 0)], [], MW A (upB B 38 f) F sw, 0, 0)) 2 rfl ?_
      refine wp_ite (fun _ => ?_) (fun h9 => absurd (by decide : nI 0 ≤ 0) h9)
      refine wp_go (f' := (97, [.ref 28, .int (nI (k + 1)), .long (dirG n nb f (k + 1)), .retAddr 0, .int (nI 0)], [.long (dirG n nb f (k + 1)), .int (nI (k + 1)), .ref 38], MW A (upB B 38 f) F sw, 0, 0)) 4 rfl ?_
      refine wp_last rfl rfl (by omega) (by decide) ?_
      refine wp_eq (f' := (98, [.ref 28, .int (nI (k + 1)), .long (dirG n nb f (k + 1)), .retAddr 0, .int (nI 0)], [], MW A (upB B 38 (vp_updL f (k + 1) (dirG n nb f (k + 1)))) F sw, 0, 0)) rfl ?_
      refine wp_go (f' := (101, [.ref 28, .int ((nI (k + 1)) + 1), .long (dirG n nb f (k + 1)), .retAddr 0, .int (nI 0)], [], MW A (upB B 38 (vp_updL f (k + 1) (dirG n nb f (k + 1)))) F sw, 0, 0)) 1 rfl ?_
      rw [nI_1]
      refine wp_go (f' := (9, [.ref 28, .int (nI ((k + 1) + 1)), .long (dirG n nb f (k + 1)), .retAddr 0, .int (nI 0)], [], MW A (upB B 38 (vp_updL f (k + 1) (dirG n nb f (k + 1)))) F sw, 0, 0)) 1 rfl ?_
      exact ih (.long (dirG n nb f (k + 1))) (.retAddr 0) (.int (nI 0))
  · intro  d2 d3 d4
    refine wp_go (f' := (11, [.ref 28, .int (nI (2 ^ n - 1 + 1)), d2, d3, d4], [.ref 28, .int (nI (2 ^ n - 1 + 1))], MW A (upB B 38 (tabN (dirG n nb) n (vp_updL (B 38) 0 1))) F sw, 0, 0)) 2 rfl ?_
    refine wp_call rfl rfl rfl (ev_up (ev_all hM) (by decide)) ?_
    refine wp_eq (f' := (14, [.ref 28, .int (nI (2 ^ n - 1 + 1)), d2, d3, d4], [.int (nI (2 ^ n - 1)), .int (nI (2 ^ n - 1 + 1))], MW A (upB B 38 (tabN (dirG n nb) n (vp_updL (B 38) 0 1))) F sw, 0, 0)) rfl ?_
    refine wp_go (f' := ((if (nI (2 ^ n - 1)) < (nI (2 ^ n - 1 + 1)) then 104 else 17), [.ref 28, .int (nI (2 ^ n - 1 + 1)), d2, d3, d4], [], MW A (upB B 38 (tabN (dirG n nb) n (vp_updL (B 38) 0 1))) F sw, 0, 0)) 1 rfl ?_
    refine wp_ite (fun _ => ?_) (fun h9 => absurd (nI_lt (by omega) (by omega)) h9)
    refine wp_go (f' := (109, [.ref 28, .int (nI (2 ^ n - 1 + 1)), d2, d3, d4], [.ref 28, .ref 38], MW A (upB B 38 (tabN (dirG n nb) n (vp_updL (B 38) 0 1))) F sw, 0, 0)) 3 rfl ?_
    refine wp_call rfl rfl rfl (ev_up (ev_all hM) (by decide)) ?_
    refine wp_eq (f' := (112, [.ref 28, .int (nI (2 ^ n - 1 + 1)), d2, d3, d4], [.int (nI (2 ^ n - 1)), .ref 38], MW A (upB B 38 (tabN (dirG n nb) n (vp_updL (B 38) 0 1))) F sw, 0, 0)) rfl ?_
    refine wp_lald rfl rfl (by omega) (by decide) ?_
    refine wp_eq (f' := (113, [.ref 28, .int (nI (2 ^ n - 1 + 1)), d2, d3, d4], [.long ((tabN (dirG n nb) n (vp_updL (B 38) 0 1)) (2 ^ n - 1))], MW A (upB B 38 (tabN (dirG n nb) n (vp_updL (B 38) 0 1))) F sw, 0, 0)) rfl ?_
    exact wp_lret rfl
theorem ev_wholes (hM : MI A F n nb) : mv_Ev xs Ls 3 127 [.ref 28] (MW A B F sw) (some (.long (if n = 0 then 0 else (tabN (wholG n nb) n (B 38)) (2 ^ n - 1))), MW A (upB B 38 (tabN (wholG n nb) n (B 38))) F sw, 0, 0) := by
  refine ev_of_wp rfl rfl rfl ?_
  have hn := hM.1
  have hp := pow10 hn
  have hp1 : 1 ≤ 2 ^ n := Nat.one_le_two_pow
  have hal := all_lt hn
  refine wp_go (f' := (2, [.ref 28, .int (nI 1), .retAddr 0, .retAddr 0, .retAddr 0, .retAddr 0], [], MW A B F sw, 0, 0)) 2 rfl ?_
  refine wp_eq (f' := (2, [.ref 28, .int (nI 1), .retAddr 0, .retAddr 0, .retAddr 0, .retAddr 0], [], MW A (upB B 38 (B 38)) F sw, 0, 0)) rfl ?_
  refine for_ind (P := fun (k : Nat) (f : Nat → Int64) => ∀ (d2 d3 d4 d5 : Value), mv_Wp xs Ls 2 6 false (some .long) mv_c127 (2, [.ref 28, .int (nI (k + 1)), d2, d3, d4, d5], [], MW A (upB B 38 f) F sw, 0, 0) (some (.long (if n = 0 then 0 else (tabN (wholG n nb) n (B 38)) (2 ^ n - 1))), MW A (upB B 38 (tabN (wholG n nb) n (B 38))) F sw, 0, 0)) (f := fun k f => vp_updL f (k + 1) (wholG n nb f (k + 1))) (n := (2 ^ n - 1)) ?_ (2 ^ n - 1) (B 38) (Nat.le_refl _) ?_  (.retAddr 0) (.retAddr 0) (.retAddr 0) (.retAddr 0)
  · intro k f hk ih  d2 d3 d4 d5
    refine wp_go (f' := (4, [.ref 28, .int (nI (k + 1)), d2, d3, d4, d5], [.ref 28, .int (nI (k + 1))], MW A (upB B 38 f) F sw, 0, 0)) 2 rfl ?_
    refine wp_call rfl rfl rfl (ev_up (ev_all hM) (by decide)) ?_
    refine wp_eq (f' := (7, [.ref 28, .int (nI (k + 1)), d2, d3, d4, d5], [.int (nI (2 ^ n - 1)), .int (nI (k + 1))], MW A (upB B 38 f) F sw, 0, 0)) rfl ?_
    refine wp_go (f' := ((if (nI (2 ^ n - 1)) < (nI (k + 1)) then 93 else 10), [.ref 28, .int (nI (k + 1)), d2, d3, d4, d5], [], MW A (upB B 38 f) F sw, 0, 0)) 1 rfl ?_
    refine wp_ite (fun h9 => absurd h9 (nI_nlt (by omega) (by omega))) (fun _ => ?_)
    refine wp_go (f' := (12, [.ref 28, .int (nI (k + 1)), d2, d3, d4, d5], [.int (nI (k + 1)), .int (nI 1)], MW A (upB B 38 f) F sw, 0, 0)) 2 rfl ?_
    refine wp_call rfl rfl rfl (ev_up (ev_lowest (s := k + 1) (by omega) (by omega) _) (by decide)) ?_
    refine wp_eq (f' := (15, [.ref 28, .int (nI (k + 1)), d2, d3, d4, d5], [.int (nI (low (k + 1))), .int (nI 1)], MW A (upB B 38 f) F sw, 0, 0)) rfl ?_
    have hlw := low_lt (s := k + 1) (by omega) (by omega)
    refine wp_go (f' := (16, [.ref 28, .int (nI (k + 1)), d2, d3, d4, d5], [.int ((nI 1) <<< ((nI (low (k + 1))) &&& 31))], MW A (upB B 38 f) F sw, 0, 0)) 1 rfl ?_
    rw [bx_one (by omega)]
    have hb1 : 2 ^ (low (k + 1)) < 1024 := by first | omega | exact or_lt (by omega) (by omega) | exact and_lt (by omega) | exact and_lt_r (by omega) | exact sd_lt (by omega) | exact pow_lt (by omega)
    refine wp_go (f' := (20, [.ref 28, .int (nI (k + 1)), .int (nI (2 ^ (low (k + 1)))), d3, d4, d5], [.int (nI (k + 1)), .ref 28, .long 1], MW A (upB B 38 f) F sw, 0, 0)) 4 rfl ?_
    refine wp_call rfl rfl rfl (ev_up (ev_edgesIn hM (s := k + 1) (by omega)) (by decide)) ?_
    refine wp_eq (f' := (23, [.ref 28, .int (nI (k + 1)), .int (nI (2 ^ (low (k + 1)))), d3, d4, d5], [.int (nI (edgesN n nb (k + 1))), .long 1], MW A (upB B 38 f) F sw, 0, 0)) rfl ?_
    have hed := edgesN_le (nb := nb) hM.1 (s := k + 1) (by omega)
    refine wp_go (f' := (28, [.ref 28, .int (nI (k + 1)), .int (nI (2 ^ (low (k + 1)))), .long (1 <<< ((nI (edgesN n nb (k + 1))).toInt64 &&& 63)), .retAddr 0, d5], [.int ((nI (k + 1)) - (nI 1))], MW A (upB B 38 f) F sw, 0, 0)) 5 rfl ?_
    rw [pk_sub (by omega)]
    refine wp_go (f' := (30, [.ref 28, .int (nI (k + 1)), .int (nI (2 ^ (low (k + 1)))), .long (1 <<< ((nI (edgesN n nb (k + 1))).toInt64 &&& 63)), .retAddr 0, d5], [.int ((nI ((k + 1) - 1)) &&& (nI (k + 1)))], MW A (upB B 38 f) F sw, 0, 0)) 2 rfl ?_
    rw [bx_and]
    have hb2 : ((k + 1) - 1) &&& (k + 1) < 1024 := by first | omega | exact or_lt (by omega) (by omega) | exact and_lt (by omega) | exact and_lt_r (by omega) | exact sd_lt (by omega) | exact pow_lt (by omega)
    refine wp_go (f' := (32, [.ref 28, .int (nI (k + 1)), .int (nI (2 ^ (low (k + 1)))), .long (1 <<< ((nI (edgesN n nb (k + 1))).toInt64 &&& 63)), .retAddr 0, .int (nI (((k + 1) - 1) &&& (k + 1)))], [], MW A (upB B 38 f) F sw, 0, 0)) 1 rfl ?_
    refine sub_ind (P := fun (t : Nat) (a : Int64) => mv_Wp xs Ls 2 6 false (some .long) mv_c127 (32, [.ref 28, .int (nI (k + 1)), .int (nI (2 ^ (low (k + 1)))), .long a, .retAddr 0, .int (nI t)], [], MW A (upB B 38 f) F sw, 0, 0) (some (.long (if n = 0 then 0 else (tabN (wholG n nb) n (B 38)) (2 ^ n - 1))), MW A (upB B 38 (tabN (wholG n nb) n (B 38))) F sw, 0, 0)) (f := fun t a => a - (if ¬ t &&& 2 ^ low (k + 1) = 0 then f t <<< ((nI (edgesN n nb (sd (k + 1) t))).toInt64 &&& 63) else 0)) (s := (k + 1)) ?_ ((k + 1 - 1) &&& (k + 1)) (1 <<< ((nI (edgesN n nb (k + 1))).toInt64 &&& 63)) (by omega) ?_
    · intro t a ht ht0 ih2
      refine wp_go (f' := ((if (nI t) ≤ 0 then 80 else 37), [.ref 28, .int (nI (k + 1)), .int (nI (2 ^ (low (k + 1)))), .long a, .retAddr 0, .int (nI t)], [], MW A (upB B 38 f) F sw, 0, 0)) 2 rfl ?_
      refine wp_ite (fun h9 => absurd h9 (fun h8 => ht0 (by have h7 := (nI_leI (a := t) (b := 0) (by omega) (by omega)).mp h8; omega))) (fun _ => ?_)
      refine wp_go (f' := (42, [.ref 28, .int (nI (k + 1)), .int (nI (2 ^ (low (k + 1)))), .long a, .retAddr 0, .int (nI t)], [.int ((nI t) &&& (nI (2 ^ (low (k + 1))))), .long a], MW A (upB B 38 f) F sw, 0, 0)) 4 rfl ?_
      rw [bx_and]
      have hb1 : t &&& (2 ^ (low (k + 1))) < 1024 := by first | omega | exact or_lt (by omega) (by omega) | exact and_lt (by omega) | exact and_lt_r (by omega) | exact sd_lt (by omega) | exact pow_lt (by omega)
      refine wp_go (f' := ((if (nI (t &&& (2 ^ (low (k + 1))))) = 0 then 66 else 45), [.ref 28, .int (nI (k + 1)), .int (nI (2 ^ (low (k + 1)))), .long a, .retAddr 0, .int (nI t)], [.long a], MW A (upB B 38 f) F sw, 0, 0)) 1 rfl ?_
      refine wp_ite (fun h1 => ?_) (fun h1 => ?_)
      · have h1 : t &&& (2 ^ (low (k + 1))) = 0 := (nI_eq (a := t &&& (2 ^ (low (k + 1)))) (b := 0) (by omega) (by omega)).mp h1
        refine wp_go (f' := (73, [.ref 28, .int (nI (k + 1)), .int (nI (2 ^ (low (k + 1)))), .long (a - 0), .retAddr 0, .int (nI t)], [.int ((nI t) - (nI 1))], MW A (upB B 38 f) F sw, 0, 0)) 6 rfl ?_
        rw [pk_sub (by omega)]
        refine wp_go (f' := (75, [.ref 28, .int (nI (k + 1)), .int (nI (2 ^ (low (k + 1)))), .long (a - 0), .retAddr 0, .int (nI t)], [.int ((nI (t - 1)) &&& (nI (k + 1)))], MW A (upB B 38 f) F sw, 0, 0)) 2 rfl ?_
        rw [bx_and]
        have hb2 : (t - 1) &&& (k + 1) < 1024 := by first | omega | exact or_lt (by omega) (by omega) | exact and_lt (by omega) | exact and_lt_r (by omega) | exact sd_lt (by omega) | exact pow_lt (by omega)
        refine wp_go (f' := (32, [.ref 28, .int (nI (k + 1)), .int (nI (2 ^ (low (k + 1)))), .long (a - 0), .retAddr 0, .int (nI ((t - 1) &&& (k + 1)))], [], MW A (upB B 38 f) F sw, 0, 0)) 2 rfl ?_
        refine wp_eq ?_ ih2
        first | (simp [h1]; done) | simp only [h1, if_true, if_false, reduceIte, Bool.false_eq_true]
      · have h1 : ¬ (t &&& (2 ^ (low (k + 1))) = 0) := fun h9 => h1 ((nI_eq (a := t &&& (2 ^ (low (k + 1)))) (b := 0) (by omega) (by omega)).mpr h9)
        refine wp_go (f' := (51, [.ref 28, .int (nI (k + 1)), .int (nI (2 ^ (low (k + 1)))), .long a, .retAddr 0, .int (nI t)], [.int (nI t), .ref 38, .long a], MW A (upB B 38 f) F sw, 0, 0)) 3 rfl ?_
        refine wp_lald rfl rfl (by omega) (by decide) ?_
        refine wp_eq (f' := (52, [.ref 28, .int (nI (k + 1)), .int (nI (2 ^ (low (k + 1)))), .long a, .retAddr 0, .int (nI t)], [.long (f t), .long a], MW A (upB B 38 f) F sw, 0, 0)) rfl ?_
        refine wp_go (f' := (59, [.ref 28, .int (nI (k + 1)), .int (nI (2 ^ (low (k + 1)))), .long a, .retAddr 0, .int (nI t)], [.int ((nI (k + 1)) &&& ((nI t) ^^^ (-1))), .ref 28, .long (f t), .long a], MW A (upB B 38 f) F sw, 0, 0)) 6 rfl ?_
        rw [bx_sd (by omega)]
        have hb3 : sd (k + 1) t < 1024 := by first | omega | exact or_lt (by omega) (by omega) | exact and_lt (by omega) | exact and_lt_r (by omega) | exact sd_lt (by omega) | exact pow_lt (by omega)
        refine wp_call rfl rfl rfl (ev_up (ev_edgesIn hM (s := sd (k + 1) t) (by omega)) (by decide)) ?_
        refine wp_eq (f' := (62, [.ref 28, .int (nI (k + 1)), .int (nI (2 ^ (low (k + 1)))), .long a, .retAddr 0, .int (nI t)], [.int (nI (edgesN n nb (sd (k + 1) t))), .long (f t), .long a], MW A (upB B 38 f) F sw, 0, 0)) rfl ?_
        have hed := edgesN_le (nb := nb) hM.1 (s := sd (k + 1) t) (by omega)
        refine wp_go (f' := (73, [.ref 28, .int (nI (k + 1)), .int (nI (2 ^ (low (k + 1)))), .long (a - ((f t) <<< ((nI (edgesN n nb (sd (k + 1) t))).toInt64 &&& 63))), .retAddr 0, .int (nI t)], [.int ((nI t) - (nI 1))], MW A (upB B 38 f) F sw, 0, 0)) 7 rfl ?_
        rw [pk_sub (by omega)]
        refine wp_go (f' := (75, [.ref 28, .int (nI (k + 1)), .int (nI (2 ^ (low (k + 1)))), .long (a - ((f t) <<< ((nI (edgesN n nb (sd (k + 1) t))).toInt64 &&& 63))), .retAddr 0, .int (nI t)], [.int ((nI (t - 1)) &&& (nI (k + 1)))], MW A (upB B 38 f) F sw, 0, 0)) 2 rfl ?_
        rw [bx_and]
        have hb4 : (t - 1) &&& (k + 1) < 1024 := by first | omega | exact or_lt (by omega) (by omega) | exact and_lt (by omega) | exact and_lt_r (by omega) | exact sd_lt (by omega) | exact pow_lt (by omega)
        refine wp_go (f' := (32, [.ref 28, .int (nI (k + 1)), .int (nI (2 ^ (low (k + 1)))), .long (a - ((f t) <<< ((nI (edgesN n nb (sd (k + 1) t))).toInt64 &&& 63))), .retAddr 0, .int (nI ((t - 1) &&& (k + 1)))], [], MW A (upB B 38 f) F sw, 0, 0)) 2 rfl ?_
        refine wp_eq ?_ ih2
        first | (simp [h1]; done) | simp only [h1, if_true, if_false, reduceIte, Bool.false_eq_true]
    · skip
      refine wp_go (f' := ((if (nI 0) ≤ 0 then 80 else 37), [.ref 28, .int (nI (k + 1)), .int (nI (2 ^ (low (k + 1)))), .long (wholG n nb f (k + 1)), .retAddr 0, .int (nI 0)], [], MW A (upB B 38 f) F sw, 0, 0)) 2 rfl ?_
      refine wp_ite (fun _ => ?_) (fun h9 => absurd (by decide : nI 0 ≤ 0) h9)
      refine wp_go (f' := (86, [.ref 28, .int (nI (k + 1)), .int (nI (2 ^ (low (k + 1)))), .long (wholG n nb f (k + 1)), .retAddr 0, .int (nI 0)], [.long (wholG n nb f (k + 1)), .int (nI (k + 1)), .ref 38], MW A (upB B 38 f) F sw, 0, 0)) 4 rfl ?_
      refine wp_last rfl rfl (by omega) (by decide) ?_
      refine wp_eq (f' := (87, [.ref 28, .int (nI (k + 1)), .int (nI (2 ^ (low (k + 1)))), .long (wholG n nb f (k + 1)), .retAddr 0, .int (nI 0)], [], MW A (upB B 38 (vp_updL f (k + 1) (wholG n nb f (k + 1)))) F sw, 0, 0)) rfl ?_
      refine wp_go (f' := (90, [.ref 28, .int ((nI (k + 1)) + 1), .int (nI (2 ^ (low (k + 1)))), .long (wholG n nb f (k + 1)), .retAddr 0, .int (nI 0)], [], MW A (upB B 38 (vp_updL f (k + 1) (wholG n nb f (k + 1)))) F sw, 0, 0)) 1 rfl ?_
      rw [nI_1]
      refine wp_go (f' := (2, [.ref 28, .int (nI ((k + 1) + 1)), .int (nI (2 ^ (low (k + 1)))), .long (wholG n nb f (k + 1)), .retAddr 0, .int (nI 0)], [], MW A (upB B 38 (vp_updL f (k + 1) (wholG n nb f (k + 1)))) F sw, 0, 0)) 1 rfl ?_
      exact ih (.int (nI (2 ^ (low (k + 1))))) (.long (wholG n nb f (k + 1))) (.retAddr 0) (.int (nI 0))
  · intro  d2 d3 d4 d5
    refine wp_go (f' := (4, [.ref 28, .int (nI (2 ^ n - 1 + 1)), d2, d3, d4, d5], [.ref 28, .int (nI (2 ^ n - 1 + 1))], MW A (upB B 38 (tabN (wholG n nb) n (B 38))) F sw, 0, 0)) 2 rfl ?_
    refine wp_call rfl rfl rfl (ev_up (ev_all hM) (by decide)) ?_
    refine wp_eq (f' := (7, [.ref 28, .int (nI (2 ^ n - 1 + 1)), d2, d3, d4, d5], [.int (nI (2 ^ n - 1)), .int (nI (2 ^ n - 1 + 1))], MW A (upB B 38 (tabN (wholG n nb) n (B 38))) F sw, 0, 0)) rfl ?_
    refine wp_go (f' := ((if (nI (2 ^ n - 1)) < (nI (2 ^ n - 1 + 1)) then 93 else 10), [.ref 28, .int (nI (2 ^ n - 1 + 1)), d2, d3, d4, d5], [], MW A (upB B 38 (tabN (wholG n nb) n (B 38))) F sw, 0, 0)) 1 rfl ?_
    refine wp_ite (fun _ => ?_) (fun h9 => absurd (nI_lt (by omega) (by omega)) h9)
    refine wp_go (f' := (97, [.ref 28, .int (nI (2 ^ n - 1 + 1)), d2, d3, d4, d5], [.int (F 6)], MW A (upB B 38 (tabN (wholG n nb) n (B 38))) F sw, 0, 0)) 2 rfl ?_
    rw [hM.2.1]
    refine wp_go (f' := ((if ¬ (nI n) = 0 then 104 else 100), [.ref 28, .int (nI (2 ^ n - 1 + 1)), d2, d3, d4, d5], [], MW A (upB B 38 (tabN (wholG n nb) n (B 38))) F sw, 0, 0)) 1 rfl ?_
    refine wp_ite (fun h1 => ?_) (fun h1 => ?_)
    · have h1 : ¬ (n = 0) := fun h9 => h1 ((nI_eq (a := n) (b := 0) (by omega) (by omega)).mpr h9)
      refine wp_go (f' := (109, [.ref 28, .int (nI (2 ^ n - 1 + 1)), d2, d3, d4, d5], [.ref 28, .ref 38], MW A (upB B 38 (tabN (wholG n nb) n (B 38))) F sw, 0, 0)) 3 rfl ?_
      refine wp_call rfl rfl rfl (ev_up (ev_all hM) (by decide)) ?_
      refine wp_eq (f' := (112, [.ref 28, .int (nI (2 ^ n - 1 + 1)), d2, d3, d4, d5], [.int (nI (2 ^ n - 1)), .ref 38], MW A (upB B 38 (tabN (wholG n nb) n (B 38))) F sw, 0, 0)) rfl ?_
      refine wp_lald rfl rfl (by omega) (by decide) ?_
      refine wp_eq (f' := (113, [.ref 28, .int (nI (2 ^ n - 1 + 1)), d2, d3, d4, d5], [.long ((tabN (wholG n nb) n (B 38)) (2 ^ n - 1))], MW A (upB B 38 (tabN (wholG n nb) n (B 38))) F sw, 0, 0)) rfl ?_
      rw [if_neg h1]
      exact wp_lret rfl
    · have h1 := Classical.not_not.mp h1; have h1 : n = 0 := (nI_eq (a := n) (b := 0) (by omega) (by omega)).mp h1
      refine wp_go (f' := (113, [.ref 28, .int (nI (2 ^ n - 1 + 1)), d2, d3, d4, d5], [.long 0], MW A (upB B 38 (tabN (wholG n nb) n (B 38))) F sw, 0, 0)) 2 rfl ?_
      rw [if_pos h1]
      exact wp_lret rfl
end MM
