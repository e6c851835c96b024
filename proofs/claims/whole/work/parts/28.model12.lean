/-! tables over all sets, filled by rising numbers -/
def tabN (G : (Nat → Int64) → Nat → Int64) (n : Nat) (g : Nat → Int64) : Nat → Int64 := forN (fun k f => vp_updL f (k + 1) (G f (k + 1))) (2 ^ n - 1) g
/-- through the subsets t of s that aren't empty, from t down -/
def subF (f : Nat → Int64 → Int64) (s : Nat) : Nat → Nat → Int64 → Int64
  | 0, _, a => a
  | k + 1, t, a => if t = 0 then a else subF f s k ((t - 1) &&& s) (f t a)
def subN (f : Nat → Int64 → Int64) (s t : Nat) (a : Int64) : Int64 := subF f s 1024 t a
theorem subF_fuel {f : Nat → Int64 → Int64} {s : Nat} : ∀ (k m t : Nat) (a : Int64), t ≤ k → t ≤ m → subF f s k t a = subF f s m t a
  | 0, 0, t, a, h1, h2 => rfl
  | 0, m + 1, t, a, h1, h2 => by have : t = 0 := by omega
                                 subst this; simp [subF]
  | k + 1, 0, t, a, h1, h2 => by have : t = 0 := by omega
                                 subst this; simp [subF]
  | k + 1, m + 1, t, a, h1, h2 => by
    simp only [subF]
    by_cases h : t = 0
    · rw [if_pos h, if_pos h]
    · rw [if_neg h, if_neg h]
      have : (t - 1) &&& s ≤ t - 1 := Nat.and_le_left
      exact subF_fuel k m _ _ (by omega) (by omega)
theorem subN_0 (f : Nat → Int64 → Int64) (s : Nat) (a : Int64) : subN f s 0 a = a := by
  unfold subN
  rw [show (1024 : Nat) = 1023 + 1 from rfl]
  exact if_pos rfl
theorem subF_succ (f : Nat → Int64 → Int64) (s k t : Nat) (a : Int64) : subF f s (k + 1) t a = if t = 0 then a else subF f s k ((t - 1) &&& s) (f t a) := rfl
theorem subN_s {f : Nat → Int64 → Int64} {s t : Nat} {a : Int64} (ht : t < 1024) (h0 : ¬ t = 0) : subN f s t a = subN f s ((t - 1) &&& s) (f t a) := by
  have : (t - 1) &&& s ≤ t - 1 := Nat.and_le_left
  unfold subN
  rw [show (1024 : Nat) = 1023 + 1 from rfl, subF_succ, if_neg h0]
  exact subF_fuel 1023 1024 _ _ (by omega) (by omega)
theorem sub_ind {P : Nat → Int64 → Prop} {f : Nat → Int64 → Int64} {s : Nat} (hs : ∀ t a, t < 1024 → ¬ t = 0 → P ((t - 1) &&& s) (f t a) → P t a) : ∀ (t : Nat) (a : Int64), t < 1024 → P 0 (subN f s t a) → P t a := by
  refine wh_ind (P := fun t => ∀ a, t < 1024 → P 0 (subN f s t a) → P t a) (fun t => t) (fun t ih a ht h => ?_)
  by_cases h0 : t = 0
  · subst h0; rw [subN_0] at h; exact h
  · have h2 : (t - 1) &&& s ≤ t - 1 := Nat.and_le_left
    rw [subN_s ht h0] at h
    exact hs t a ht h0 (ih _ (by omega) _ (by omega) h)
/-- matchings of s, by a table of smaller sets -/
def matG (n : Nat) (nb : Nat → Nat) (each : Bool) (f : Nat → Int64) (s : Nat) : Int64 := forN (fun w x => x + (if (nb (low s) &&& sd s (2 ^ low s)).testBit w then f (sd (sd s (2 ^ low s)) (2 ^ w)) else 0)) n (if each then 0 else f (sd s (2 ^ low s)))
/-- s cut into sets with the lowest vertex, by a table h of such -/
def prodG (h f : Nat → Int64) (s : Nat) : Int64 := subN (fun t a => a + (if ¬ t &&& 2 ^ low s = 0 then h t * f (sd s t) else 0)) s s 0
def wholG (n : Nat) (nb : Nat → Nat) (f : Nat → Int64) (s : Nat) : Int64 := subN (fun t a => a - (if ¬ t &&& 2 ^ low s = 0 then f t <<< ((nI (edgesN n nb (sd s t))).toInt64 &&& 63) else 0)) s ((s - 1) &&& s) (1 <<< ((nI (edgesN n nb s)).toInt64 &&& 63))
def dirG (n : Nat) (nb : Nat → Nat) (f : Nat → Int64) (s : Nat) : Int64 := subN (fun t a => a + (if apartN n nb t then (if pop t &&& 1 = 1 then f (sd s t) else - f (sd s t)) else 0)) s s 0
section MM
variable {xs : Nat → Int32} {Ls : Nat} {A : Nat → Nat → Int32} {B : Nat → Nat → Int64} {F : Nat → Int32} {sw : Bool} {n : Nat} {nb : Nat → Nat}
theorem ev_matchings0 (hM : MI A F n nb) : mv_Ev xs Ls 3 123 [.ref 28, .int (nI 0)] (MW A B F sw) (some (.long ((tabN (matG n nb false) n (vp_updL (B 38) 0 1)) (2 ^ n - 1))), MW A (upB B 38 (tabN (matG n nb false) n (vp_updL (B 38) 0 1))) F sw, 0, 0) := by
  refine ev_of_wp rfl rfl rfl ?_
  have hn := hM.1
  have hp := pow10 hn
  have hp1 : 1 ≤ 2 ^ n := Nat.one_le_two_pow
  have hal := all_lt hn
  have hnbl := hM.2.2.2
  refine wp_go (f' := (6, [.ref 28, .int (nI 0), .retAddr 0, .retAddr 0, .retAddr 0, .retAddr 0, .retAddr 0, .retAddr 0], [.long 1, .int (nI 0), .ref 38], MW A B F sw, 0, 0)) 4 rfl ?_
  refine wp_last rfl rfl (by omega) (by decide) ?_
  refine wp_eq (f' := (7, [.ref 28, .int (nI 0), .retAddr 0, .retAddr 0, .retAddr 0, .retAddr 0, .retAddr 0, .retAddr 0], [], MW A (upB B 38 (vp_updL (B 38) 0 1)) F sw, 0, 0)) rfl ?_
  refine wp_go (f' := (9, [.ref 28, .int (nI 0), .int (nI 1), .retAddr 0, .retAddr 0, .retAddr 0, .retAddr 0, .retAddr 0], [], MW A (upB B 38 (vp_updL (B 38) 0 1)) F sw, 0, 0)) 2 rfl ?_
  refine for_ind (P := fun (k : Nat) (f : Nat → Int64) => ∀ (d3 d4 d5 d6 d7 : Value), mv_Wp xs Ls 2 6 false (some .long) mv_c123 (9, [.ref 28, .int (nI 0), .int (nI (k + 1)), d3, d4, d5, d6, d7], [], MW A (upB B 38 f) F sw, 0, 0) (some (.long ((tabN (matG n nb false) n (vp_updL (B 38) 0 1)) (2 ^ n - 1))), MW A (upB B 38 (tabN (matG n nb false) n (vp_updL (B 38) 0 1))) F sw, 0, 0)) (f := fun k f => vp_updL f (k + 1) (matG n nb false f (k + 1))) (n := (2 ^ n - 1)) ?_ (2 ^ n - 1) (vp_updL (B 38) 0 1) (Nat.le_refl _) ?_  (.retAddr 0) (.retAddr 0) (.retAddr 0) (.retAddr 0) (.retAddr 0)
  · intro k f hk ih  d3 d4 d5 d6 d7
    refine wp_go (f' := (11, [.ref 28, .int (nI 0), .int (nI (k + 1)), d3, d4, d5, d6, d7], [.ref 28, .int (nI (k + 1))], MW A (upB B 38 f) F sw, 0, 0)) 2 rfl ?_
    refine wp_call rfl rfl rfl (ev_up (ev_all hM) (by decide)) ?_
    refine wp_eq (f' := (14, [.ref 28, .int (nI 0), .int (nI (k + 1)), d3, d4, d5, d6, d7], [.int (nI (2 ^ n - 1)), .int (nI (k + 1))], MW A (upB B 38 f) F sw, 0, 0)) rfl ?_
    refine wp_go (f' := ((if (nI (2 ^ n - 1)) < (nI (k + 1)) then 121 else 17), [.ref 28, .int (nI 0), .int (nI (k + 1)), d3, d4, d5, d6, d7], [], MW A (upB B 38 f) F sw, 0, 0)) 1 rfl ?_
    refine wp_ite (fun h9 => absurd h9 (nI_nlt (by omega) (by omega))) (fun _ => ?_)
    refine wp_go (f' := (18, [.ref 28, .int (nI 0), .int (nI (k + 1)), d3, d4, d5, d6, d7], [.int (nI (k + 1))], MW A (upB B 38 f) F sw, 0, 0)) 1 rfl ?_
    refine wp_call rfl rfl rfl (ev_up (ev_lowest (s := k + 1) (by omega) (by omega) _) (by decide)) ?_
    refine wp_eq (f' := (21, [.ref 28, .int (nI 0), .int (nI (k + 1)), d3, d4, d5, d6, d7], [.int (nI (low (k + 1)))], MW A (upB B 38 f) F sw, 0, 0)) rfl ?_
    have hlw := low_lt (s := k + 1) (by omega) (by omega)
    refine wp_go (f' := (26, [.ref 28, .int (nI 0), .int (nI (k + 1)), .int (nI (low (k + 1))), d4, d5, d6, d7], [.int ((nI 1) <<< ((nI (low (k + 1))) &&& 31)), .int (nI (k + 1))], MW A (upB B 38 f) F sw, 0, 0)) 5 rfl ?_
    rw [bx_one (by omega)]
    have hb1 : 2 ^ (low (k + 1)) < 1024 := by first | omega | exact or_lt (by omega) (by omega) | exact and_lt (by omega) | exact and_lt_r (by omega) | exact sd_lt (by omega) | exact pow_lt (by omega)
    refine wp_go (f' := (29, [.ref 28, .int (nI 0), .int (nI (k + 1)), .int (nI (low (k + 1))), d4, d5, d6, d7], [.int ((nI (k + 1)) &&& ((nI (2 ^ (low (k + 1)))) ^^^ (-1)))], MW A (upB B 38 f) F sw, 0, 0)) 3 rfl ?_
    rw [bx_sd (by omega)]
    have hb2 : sd (k + 1) (2 ^ (low (k + 1))) < 1024 := by first | omega | exact or_lt (by omega) (by omega) | exact and_lt (by omega) | exact and_lt_r (by omega) | exact sd_lt (by omega) | exact pow_lt (by omega)
    refine wp_go (f' := ((if (nI 0) = 0 then 39 else 35), [.ref 28, .int (nI 0), .int (nI (k + 1)), .int (nI (low (k + 1))), .int (nI (sd (k + 1) (2 ^ (low (k + 1))))), d5, d6, d7], [], MW A (upB B 38 f) F sw, 0, 0)) 3 rfl ?_
    refine wp_ite (fun _ => ?_) (fun h9 => absurd (rfl : nI 0 = 0) h9)
    refine wp_go (f' := (45, [.ref 28, .int (nI 0), .int (nI (k + 1)), .int (nI (low (k + 1))), .int (nI (sd (k + 1) (2 ^ (low (k + 1))))), d5, d6, d7], [.int (nI (sd (k + 1) (2 ^ (low (k + 1))))), .ref 38], MW A (upB B 38 f) F sw, 0, 0)) 3 rfl ?_
    refine wp_lald rfl rfl (by omega) (by decide) ?_
    refine wp_eq (f' := (46, [.ref 28, .int (nI 0), .int (nI (k + 1)), .int (nI (low (k + 1))), .int (nI (sd (k + 1) (2 ^ (low (k + 1))))), d5, d6, d7], [.long (f (sd (k + 1) (2 ^ (low (k + 1)))))], MW A (upB B 38 f) F sw, 0, 0)) rfl ?_
    refine wp_go (f' := (51, [.ref 28, .int (nI 0), .int (nI (k + 1)), .int (nI (low (k + 1))), .int (nI (sd (k + 1) (2 ^ (low (k + 1))))), .long (f (sd (k + 1) (2 ^ (low (k + 1))))), .retAddr 0, .int (nI 0)], [], MW A (upB B 38 f) F sw, 0, 0)) 3 rfl ?_
    refine for_ind (P := fun (w : Nat) (x : Int64) => mv_Wp xs Ls 2 6 false (some .long) mv_c123 (51, [.ref 28, .int (nI 0), .int (nI (k + 1)), .int (nI (low (k + 1))), .int (nI (sd (k + 1) (2 ^ (low (k + 1))))), .long x, .retAddr 0, .int (nI w)], [], MW A (upB B 38 f) F sw, 0, 0) (some (.long ((tabN (matG n nb false) n (vp_updL (B 38) 0 1)) (2 ^ n - 1))), MW A (upB B 38 (tabN (matG n nb false) n (vp_updL (B 38) 0 1))) F sw, 0, 0)) (f := fun w x => x + (if (nb (low (k + 1)) &&& sd (k + 1) (2 ^ low (k + 1))).testBit w then f (sd (sd (k + 1) (2 ^ low (k + 1))) (2 ^ w)) else 0)) (n := n) ?_ n (f (sd (k + 1) (2 ^ (low (k + 1))))) (Nat.le_refl _) ?_  
    · intro w x hk2 ih2  
      refine wp_go (f' := (57, [.ref 28, .int (nI 0), .int (nI (k + 1)), .int (nI (low (k + 1))), .int (nI (sd (k + 1) (2 ^ (low (k + 1))))), .long x, .retAddr 0, .int (nI w)], [.int (F 6), .int (nI w)], MW A (upB B 38 f) F sw, 0, 0)) 3 rfl ?_
      rw [hM.2.1]
      refine wp_go (f' := ((if (nI n) ≤ (nI w) then 107 else 60), [.ref 28, .int (nI 0), .int (nI (k + 1)), .int (nI (low (k + 1))), .int (nI (sd (k + 1) (2 ^ (low (k + 1))))), .long x, .retAddr 0, .int (nI w)], [], MW A (upB B 38 f) F sw, 0, 0)) 1 rfl ?_
      refine wp_ite (fun h9 => absurd h9 (nI_ge hk2 (by omega))) (fun _ => ?_)
      refine wp_go (f' := (67, [.ref 28, .int (nI 0), .int (nI (k + 1)), .int (nI (low (k + 1))), .int (nI (sd (k + 1) (2 ^ (low (k + 1))))), .long x, .retAddr 0, .int (nI w)], [.int (nI (low (k + 1))), .ref 29, .long x], MW A (upB B 38 f) F sw, 0, 0)) 4 rfl ?_
      refine wp_iald rfl rfl (by omega) (by decide) ?_
      rw [hM.2.2.1 (low (k + 1)) (by omega)]
      have hnb := hM.2.2.2 (low (k + 1)) (by omega)
      refine wp_go (f' := (71, [.ref 28, .int (nI 0), .int (nI (k + 1)), .int (nI (low (k + 1))), .int (nI (sd (k + 1) (2 ^ (low (k + 1))))), .long x, .retAddr 0, .int (nI w)], [.int ((nI (nb (low (k + 1)))) &&& (nI (sd (k + 1) (2 ^ (low (k + 1)))))), .long x], MW A (upB B 38 f) F sw, 0, 0)) 2 rfl ?_
      rw [bx_and]
      have hb1 : (nb (low (k + 1))) &&& (sd (k + 1) (2 ^ (low (k + 1)))) < 1024 := by first | omega | exact or_lt (by omega) (by omega) | exact and_lt (by omega) | exact and_lt_r (by omega) | exact sd_lt (by omega) | exact pow_lt (by omega)
      refine wp_go (f' := (76, [.ref 28, .int (nI 0), .int (nI (k + 1)), .int (nI (low (k + 1))), .int (nI (sd (k + 1) (2 ^ (low (k + 1))))), .long x, .retAddr 0, .int (nI w)], [.int (((nI ((nb (low (k + 1))) &&& (sd (k + 1) (2 ^ (low (k + 1)))))) >>> ((nI w) &&& 31)) &&& (nI 1)), .long x], MW A (upB B 38 f) F sw, 0, 0)) 4 rfl ?_
      rw [bx_bit (by omega) (by omega)]
      refine wp_go (f' := ((if ¬ (bI (((nb (low (k + 1))) &&& (sd (k + 1) (2 ^ (low (k + 1))))).testBit w)) = (nI 1) then 97 else 80), [.ref 28, .int (nI 0), .int (nI (k + 1)), .int (nI (low (k + 1))), .int (nI (sd (k + 1) (2 ^ (low (k + 1))))), .long x, .retAddr 0, .int (nI w)], [.long x], MW A (upB B 38 f) F sw, 0, 0)) 2 rfl ?_
      refine wp_ite (fun h1 => ?_) (fun h1 => ?_)
      · have h1 := bI_n1 h1
        refine wp_go (f' := (104, [.ref 28, .int (nI 0), .int (nI (k + 1)), .int (nI (low (k + 1))), .int (nI (sd (k + 1) (2 ^ (low (k + 1))))), .long (x + 0), .retAddr 0, .int ((nI w) + 1)], [], MW A (upB B 38 f) F sw, 0, 0)) 4 rfl ?_
        rw [nI_1]
        refine wp_go (f' := (51, [.ref 28, .int (nI 0), .int (nI (k + 1)), .int (nI (low (k + 1))), .int (nI (sd (k + 1) (2 ^ (low (k + 1))))), .long (x + 0), .retAddr 0, .int (nI (w + 1))], [], MW A (upB B 38 f) F sw, 0, 0)) 1 rfl ?_
        refine wp_eq ?_ (ih2  )
        simp [h1]
      · have h1 := Classical.not_not.mp h1; have h1 := bI_1.mp h1
        refine wp_go (f' := (90, [.ref 28, .int (nI 0), .int (nI (k + 1)), .int (nI (low (k + 1))), .int (nI (sd (k + 1) (2 ^ (low (k + 1))))), .long x, .retAddr 0, .int (nI w)], [.int ((nI 1) <<< ((nI w) &&& 31)), .int (nI (sd (k + 1) (2 ^ (low (k + 1))))), .ref 38, .long x], MW A (upB B 38 f) F sw, 0, 0)) 6 rfl ?_
        rw [bx_one (by omega)]
        have hb2 : 2 ^ w < 1024 := by first | omega | exact or_lt (by omega) (by omega) | exact and_lt (by omega) | exact and_lt_r (by omega) | exact sd_lt (by omega) | exact pow_lt (by omega)
        refine wp_go (f' := (93, [.ref 28, .int (nI 0), .int (nI (k + 1)), .int (nI (low (k + 1))), .int (nI (sd (k + 1) (2 ^ (low (k + 1))))), .long x, .retAddr 0, .int (nI w)], [.int ((nI (sd (k + 1) (2 ^ (low (k + 1))))) &&& ((nI (2 ^ w)) ^^^ (-1))), .ref 38, .long x], MW A (upB B 38 f) F sw, 0, 0)) 3 rfl ?_
        rw [bx_sd (by omega)]
        have hb3 : sd (sd (k + 1) (2 ^ (low (k + 1)))) (2 ^ w) < 1024 := by first | omega | exact or_lt (by omega) (by omega) | exact and_lt (by omega) | exact and_lt_r (by omega) | exact sd_lt (by omega) | exact pow_lt (by omega)
        refine wp_lald rfl rfl (by omega) (by decide) ?_
        refine wp_eq (f' := (94, [.ref 28, .int (nI 0), .int (nI (k + 1)), .int (nI (low (k + 1))), .int (nI (sd (k + 1) (2 ^ (low (k + 1))))), .long x, .retAddr 0, .int (nI w)], [.long (f (sd (sd (k + 1) (2 ^ (low (k + 1)))) (2 ^ w))), .long x], MW A (upB B 38 f) F sw, 0, 0)) rfl ?_
        refine wp_go (f' := (104, [.ref 28, .int (nI 0), .int (nI (k + 1)), .int (nI (low (k + 1))), .int (nI (sd (k + 1) (2 ^ (low (k + 1))))), .long (x + (f (sd (sd (k + 1) (2 ^ (low (k + 1)))) (2 ^ w)))), .retAddr 0, .int ((nI w) + 1)], [], MW A (upB B 38 f) F sw, 0, 0)) 4 rfl ?_
        rw [nI_1]
        refine wp_go (f' := (51, [.ref 28, .int (nI 0), .int (nI (k + 1)), .int (nI (low (k + 1))), .int (nI (sd (k + 1) (2 ^ (low (k + 1))))), .long (x + (f (sd (sd (k + 1) (2 ^ (low (k + 1)))) (2 ^ w)))), .retAddr 0, .int (nI (w + 1))], [], MW A (upB B 38 f) F sw, 0, 0)) 1 rfl ?_
        refine wp_eq ?_ (ih2  )
        simp [h1]
    · skip
      refine wp_go (f' := (57, [.ref 28, .int (nI 0), .int (nI (k + 1)), .int (nI (low (k + 1))), .int (nI (sd (k + 1) (2 ^ (low (k + 1))))), .long (matG n nb false f (k + 1)), .retAddr 0, .int (nI n)], [.int (F 6), .int (nI n)], MW A (upB B 38 f) F sw, 0, 0)) 3 rfl ?_
      rw [hM.2.1]
      refine wp_go (f' := ((if (nI n) ≤ (nI n) then 107 else 60), [.ref 28, .int (nI 0), .int (nI (k + 1)), .int (nI (low (k + 1))), .int (nI (sd (k + 1) (2 ^ (low (k + 1))))), .long (matG n nb false f (k + 1)), .retAddr 0, .int (nI n)], [], MW A (upB B 38 f) F sw, 0, 0)) 1 rfl ?_
      refine wp_ite (fun _ => ?_) (fun h9 => absurd (nI_le (Nat.le_refl _) (by omega)) h9)
      refine wp_go (f' := (114, [.ref 28, .int (nI 0), .int (nI (k + 1)), .int (nI (low (k + 1))), .int (nI (sd (k + 1) (2 ^ (low (k + 1))))), .long (matG n nb false f (k + 1)), .retAddr 0, .int (nI n)], [.long (matG n nb false f (k + 1)), .int (nI (k + 1)), .ref 38], MW A (upB B 38 f) F sw, 0, 0)) 4 rfl ?_
      refine wp_last rfl rfl (by omega) (by decide) ?_
      refine wp_eq (f' := (115, [.ref 28, .int (nI 0), .int (nI (k + 1)), .int (nI (low (k + 1))), .int (nI (sd (k + 1) (2 ^ (low (k + 1))))), .long (matG n nb false f (k + 1)), .retAddr 0, .int (nI n)], [], MW A (upB B 38 (vp_updL f (k + 1) (matG n nb false f (k + 1)))) F sw, 0, 0)) rfl ?_
      refine wp_go (f' := (118, [.ref 28, .int (nI 0), .int ((nI (k + 1)) + 1), .int (nI (low (k + 1))), .int (nI (sd (k + 1) (2 ^ (low (k + 1))))), .long (matG n nb false f (k + 1)), .retAddr 0, .int (nI n)], [], MW A (upB B 38 (vp_updL f (k + 1) (matG n nb false f (k + 1)))) F sw, 0, 0)) 1 rfl ?_
      rw [nI_1]
      refine wp_go (f' := (9, [.ref 28, .int (nI 0), .int (nI ((k + 1) + 1)), .int (nI (low (k + 1))), .int (nI (sd (k + 1) (2 ^ (low (k + 1))))), .long (matG n nb false f (k + 1)), .retAddr 0, .int (nI n)], [], MW A (upB B 38 (vp_updL f (k + 1) (matG n nb false f (k + 1)))) F sw, 0, 0)) 1 rfl ?_
      exact ih (.int (nI (low (k + 1)))) (.int (nI (sd (k + 1) (2 ^ (low (k + 1)))))) (.long (matG n nb false f (k + 1))) (.retAddr 0) (.int (nI n))
  · intro  d3 d4 d5 d6 d7
    refine wp_go (f' := (11, [.ref 28, .int (nI 0), .int (nI (2 ^ n - 1 + 1)), d3, d4, d5, d6, d7], [.ref 28, .int (nI (2 ^ n - 1 + 1))], MW A (upB B 38 (tabN (matG n nb false) n (vp_updL (B 38) 0 1))) F sw, 0, 0)) 2 rfl ?_
    refine wp_call rfl rfl rfl (ev_up (ev_all hM) (by decide)) ?_
    refine wp_eq (f' := (14, [.ref 28, .int (nI 0), .int (nI (2 ^ n - 1 + 1)), d3, d4, d5, d6, d7], [.int (nI (2 ^ n - 1)), .int (nI (2 ^ n - 1 + 1))], MW A (upB B 38 (tabN (matG n nb false) n (vp_updL (B 38) 0 1))) F sw, 0, 0)) rfl ?_
    refine wp_go (f' := ((if (nI (2 ^ n - 1)) < (nI (2 ^ n - 1 + 1)) then 121 else 17), [.ref 28, .int (nI 0), .int (nI (2 ^ n - 1 + 1)), d3, d4, d5, d6, d7], [], MW A (upB B 38 (tabN (matG n nb false) n (vp_updL (B 38) 0 1))) F sw, 0, 0)) 1 rfl ?_
    refine wp_ite (fun _ => ?_) (fun h9 => absurd (nI_lt (by omega) (by omega)) h9)
    refine wp_go (f' := (126, [.ref 28, .int (nI 0), .int (nI (2 ^ n - 1 + 1)), d3, d4, d5, d6, d7], [.ref 28, .ref 38], MW A (upB B 38 (tabN (matG n nb false) n (vp_updL (B 38) 0 1))) F sw, 0, 0)) 3 rfl ?_
    refine wp_call rfl rfl rfl (ev_up (ev_all hM) (by decide)) ?_
    refine wp_eq (f' := (129, [.ref 28, .int (nI 0), .int (nI (2 ^ n - 1 + 1)), d3, d4, d5, d6, d7], [.int (nI (2 ^ n - 1)), .ref 38], MW A (upB B 38 (tabN (matG n nb false) n (vp_updL (B 38) 0 1))) F sw, 0, 0)) rfl ?_
    refine wp_lald rfl rfl (by omega) (by decide) ?_
    refine wp_eq (f' := (130, [.ref 28, .int (nI 0), .int (nI (2 ^ n - 1 + 1)), d3, d4, d5, d6, d7], [.long ((tabN (matG n nb false) n (vp_updL (B 38) 0 1)) (2 ^ n - 1))], MW A (upB B 38 (tabN (matG n nb false) n (vp_updL (B 38) 0 1))) F sw, 0, 0)) rfl ?_
    exact wp_lret rfl
theorem ev_matchings1 (hM : MI A F n nb) : mv_Ev xs Ls 3 123 [.ref 28, .int (nI 1)] (MW A B F sw) (some (.long ((tabN (matG n nb true) n (vp_updL (B 38) 0 1)) (2 ^ n - 1))), MW A (upB B 38 (tabN (matG n nb true) n (vp_updL (B 38) 0 1))) F sw, 0, 0) := by
  refine ev_of_wp rfl rfl rfl ?_
  have hn := hM.1
  have hp := pow10 hn
  have hp1 : 1 ≤ 2 ^ n := Nat.one_le_two_pow
  have hal := all_lt hn
  have hnbl := hM.2.2.2
  refine wp_go (f' := (6, [.ref 28, .int (nI 1), .retAddr 0, .retAddr 0, .retAddr 0, .retAddr 0, .retAddr 0, .retAddr 0], [.long 1, .int (nI 0), .ref 38], MW A B F sw, 0, 0)) 4 rfl ?_
  refine wp_last rfl rfl (by omega) (by decide) ?_
  refine wp_eq (f' := (7, [.ref 28, .int (nI 1), .retAddr 0, .retAddr 0, .retAddr 0, .retAddr 0, .retAddr 0, .retAddr 0], [], MW A (upB B 38 (vp_updL (B 38) 0 1)) F sw, 0, 0)) rfl ?_
  refine wp_go (f' := (9, [.ref 28, .int (nI 1), .int (nI 1), .retAddr 0, .retAddr 0, .retAddr 0, .retAddr 0, .retAddr 0], [], MW A (upB B 38 (vp_updL (B 38) 0 1)) F sw, 0, 0)) 2 rfl ?_
  refine for_ind (P := fun (k : Nat) (f : Nat → Int64) => ∀ (d3 d4 d5 d6 d7 : Value), mv_Wp xs Ls 2 6 false (some .long) mv_c123 (9, [.ref 28, .int (nI 1), .int (nI (k + 1)), d3, d4, d5, d6, d7], [], MW A (upB B 38 f) F sw, 0, 0) (some (.long ((tabN (matG n nb true) n (vp_updL (B 38) 0 1)) (2 ^ n - 1))), MW A (upB B 38 (tabN (matG n nb true) n (vp_updL (B 38) 0 1))) F sw, 0, 0)) (f := fun k f => vp_updL f (k + 1) (matG n nb true f (k + 1))) (n := (2 ^ n - 1)) ?_ (2 ^ n - 1) (vp_updL (B 38) 0 1) (Nat.le_refl _) ?_  (.retAddr 0) (.retAddr 0) (.retAddr 0) (.retAddr 0) (.retAddr 0)
  · intro k f hk ih  d3 d4 d5 d6 d7
    refine wp_go (f' := (11, [.ref 28, .int (nI 1), .int (nI (k + 1)), d3, d4, d5, d6, d7], [.ref 28, .int (nI (k + 1))], MW A (upB B 38 f) F sw, 0, 0)) 2 rfl ?_
    refine wp_call rfl rfl rfl (ev_up (ev_all hM) (by decide)) ?_
    refine wp_eq (f' := (14, [.ref 28, .int (nI 1), .int (nI (k + 1)), d3, d4, d5, d6, d7], [.int (nI (2 ^ n - 1)), .int (nI (k + 1))], MW A (upB B 38 f) F sw, 0, 0)) rfl ?_
    refine wp_go (f' := ((if (nI (2 ^ n - 1)) < (nI (k + 1)) then 121 else 17), [.ref 28, .int (nI 1), .int (nI (k + 1)), d3, d4, d5, d6, d7], [], MW A (upB B 38 f) F sw, 0, 0)) 1 rfl ?_
    refine wp_ite (fun h9 => absurd h9 (nI_nlt (by omega) (by omega))) (fun _ => ?_)
    refine wp_go (f' := (18, [.ref 28, .int (nI 1), .int (nI (k + 1)), d3, d4, d5, d6, d7], [.int (nI (k + 1))], MW A (upB B 38 f) F sw, 0, 0)) 1 rfl ?_
    refine wp_call rfl rfl rfl (ev_up (ev_lowest (s := k + 1) (by omega) (by omega) _) (by decide)) ?_
    refine wp_eq (f' := (21, [.ref 28, .int (nI 1), .int (nI (k + 1)), d3, d4, d5, d6, d7], [.int (nI (low (k + 1)))], MW A (upB B 38 f) F sw, 0, 0)) rfl ?_
    have hlw := low_lt (s := k + 1) (by omega) (by omega)
    refine wp_go (f' := (26, [.ref 28, .int (nI 1), .int (nI (k + 1)), .int (nI (low (k + 1))), d4, d5, d6, d7], [.int ((nI 1) <<< ((nI (low (k + 1))) &&& 31)), .int (nI (k + 1))], MW A (upB B 38 f) F sw, 0, 0)) 5 rfl ?_
    rw [bx_one (by omega)]
    have hb1 : 2 ^ (low (k + 1)) < 1024 := by first | omega | exact or_lt (by omega) (by omega) | exact and_lt (by omega) | exact and_lt_r (by omega) | exact sd_lt (by omega) | exact pow_lt (by omega)
    refine wp_go (f' := (29, [.ref 28, .int (nI 1), .int (nI (k + 1)), .int (nI (low (k + 1))), d4, d5, d6, d7], [.int ((nI (k + 1)) &&& ((nI (2 ^ (low (k + 1)))) ^^^ (-1)))], MW A (upB B 38 f) F sw, 0, 0)) 3 rfl ?_
    rw [bx_sd (by omega)]
    have hb2 : sd (k + 1) (2 ^ (low (k + 1))) < 1024 := by first | omega | exact or_lt (by omega) (by omega) | exact and_lt (by omega) | exact and_lt_r (by omega) | exact sd_lt (by omega) | exact pow_lt (by omega)
    refine wp_go (f' := ((if (nI 1) = 0 then 39 else 35), [.ref 28, .int (nI 1), .int (nI (k + 1)), .int (nI (low (k + 1))), .int (nI (sd (k + 1) (2 ^ (low (k + 1))))), d5, d6, d7], [], MW A (upB B 38 f) F sw, 0, 0)) 3 rfl ?_
    refine wp_ite (fun h9 => absurd h9 (by decide : ¬ nI 1 = 0)) (fun _ => ?_)
    refine wp_go (f' := (51, [.ref 28, .int (nI 1), .int (nI (k + 1)), .int (nI (low (k + 1))), .int (nI (sd (k + 1) (2 ^ (low (k + 1))))), .long 0, .retAddr 0, .int (nI 0)], [], MW A (upB B 38 f) F sw, 0, 0)) 5 rfl ?_
    refine for_ind (P := fun (w : Nat) (x : Int64) => mv_Wp xs Ls 2 6 false (some .long) mv_c123 (51, [.ref 28, .int (nI 1), .int (nI (k + 1)), .int (nI (low (k + 1))), .int (nI (sd (k + 1) (2 ^ (low (k + 1))))), .long x, .retAddr 0, .int (nI w)], [], MW A (upB B 38 f) F sw, 0, 0) (some (.long ((tabN (matG n nb true) n (vp_updL (B 38) 0 1)) (2 ^ n - 1))), MW A (upB B 38 (tabN (matG n nb true) n (vp_updL (B 38) 0 1))) F sw, 0, 0)) (f := fun w x => x + (if (nb (low (k + 1)) &&& sd (k + 1) (2 ^ low (k + 1))).testBit w then f (sd (sd (k + 1) (2 ^ low (k + 1))) (2 ^ w)) else 0)) (n := n) ?_ n 0 (Nat.le_refl _) ?_  
    · intro w x hk2 ih2  
      refine wp_go (f' := (57, [.ref 28, .int (nI 1), .int (nI (k + 1)), .int (nI (low (k + 1))), .int (nI (sd (k + 1) (2 ^ (low (k + 1))))), .long x, .retAddr 0, .int (nI w)], [.int (F 6), .int (nI w)], MW A (upB B 38 f) F sw, 0, 0)) 3 rfl ?_
      rw [hM.2.1]
      refine wp_go (f' := ((if (nI n) ≤ (nI w) then 107 else 60), [.ref 28, .int (nI 1), .int (nI (k + 1)), .int (nI (low (k + 1))), .int (nI (sd (k + 1) (2 ^ (low (k + 1))))), .long x, .retAddr 0, .int (nI w)], [], MW A (upB B 38 f) F sw, 0, 0)) 1 rfl ?_
      refine wp_ite (fun h9 => absurd h9 (nI_ge hk2 (by omega))) (fun _ => ?_)
      refine wp_go (f' := (67, [.ref 28, .int (nI 1), .int (nI (k + 1)), .int (nI (low (k + 1))), .int (nI (sd (k + 1) (2 ^ (low (k + 1))))), .long x, .retAddr 0, .int (nI w)], [.int (nI (low (k + 1))), .ref 29, .long x], MW A (upB B 38 f) F sw, 0, 0)) 4 rfl ?_
      refine wp_iald rfl rfl (by omega) (by decide) ?_
      rw [hM.2.2.1 (low (k + 1)) (by omega)]
      have hnb := hM.2.2.2 (low (k + 1)) (by omega)
      refine wp_go (f' := (71, [.ref 28, .int (nI 1), .int (nI (k + 1)), .int (nI (low (k + 1))), .int (nI (sd (k + 1) (2 ^ (low (k + 1))))), .long x, .retAddr 0, .int (nI w)], [.int ((nI (nb (low (k + 1)))) &&& (nI (sd (k + 1) (2 ^ (low (k + 1)))))), .long x], MW A (upB B 38 f) F sw, 0, 0)) 2 rfl ?_
      rw [bx_and]
      have hb1 : (nb (low (k + 1))) &&& (sd (k + 1) (2 ^ (low (k + 1)))) < 1024 := by first | omega | exact or_lt (by omega) (by omega) | exact and_lt (by omega) | exact and_lt_r (by omega) | exact sd_lt (by omega) | exact pow_lt (by omega)
      refine wp_go (f' := (76, [.ref 28, .int (nI 1), .int (nI (k + 1)), .int (nI (low (k + 1))), .int (nI (sd (k + 1) (2 ^ (low (k + 1))))), .long x, .retAddr 0, .int (nI w)], [.int (((nI ((nb (low (k + 1))) &&& (sd (k + 1) (2 ^ (low (k + 1)))))) >>> ((nI w) &&& 31)) &&& (nI 1)), .long x], MW A (upB B 38 f) F sw, 0, 0)) 4 rfl ?_
      rw [bx_bit (by omega) (by omega)]
      refine wp_go (f' := ((if ¬ (bI (((nb (low (k + 1))) &&& (sd (k + 1) (2 ^ (low (k + 1))))).testBit w)) = (nI 1) then 97 else 80), [.ref 28, .int (nI 1), .int (nI (k + 1)), .int (nI (low (k + 1))), .int (nI (sd (k + 1) (2 ^ (low (k + 1))))), .long x, .retAddr 0, .int (nI w)], [.long x], MW A (upB B 38 f) F sw, 0, 0)) 2 rfl ?_
      refine wp_ite (fun h1 => ?_) (fun h1 => ?_)
      · have h1 := bI_n1 h1
        refine wp_go (f' := (104, [.ref 28, .int (nI 1), .int (nI (k + 1)), .int (nI (low (k + 1))), .int (nI (sd (k + 1) (2 ^ (low (k + 1))))), .long (x + 0), .retAddr 0, .int ((nI w) + 1)], [], MW A (upB B 38 f) F sw, 0, 0)) 4 rfl ?_
        rw [nI_1]
        refine wp_go (f' := (51, [.ref 28, .int (nI 1), .int (nI (k + 1)), .int (nI (low (k + 1))), .int (nI (sd (k + 1) (2 ^ (low (k + 1))))), .long (x + 0), .retAddr 0, .int (nI (w + 1))], [], MW A (upB B 38 f) F sw, 0, 0)) 1 rfl ?_
        refine wp_eq ?_ (ih2  )
        simp [h1]
      · have h1 := Classical.not_not.mp h1; have h1 := bI_1.mp h1
        refine wp_go (f' := (90, [.ref 28, .int (nI 1), .int (nI (k + 1)), .int (nI (low (k + 1))), .int (nI (sd (k + 1) (2 ^ (low (k + 1))))), .long x, .retAddr 0, .int (nI w)], [.int ((nI 1) <<< ((nI w) &&& 31)), .int (nI (sd (k + 1) (2 ^ (low (k + 1))))), .ref 38, .long x], MW A (upB B 38 f) F sw, 0, 0)) 6 rfl ?_
        rw [bx_one (by omega)]
        have hb2 : 2 ^ w < 1024 := by first | omega | exact or_lt (by omega) (by omega) | exact and_lt (by omega) | exact and_lt_r (by omega) | exact sd_lt (by omega) | exact pow_lt (by omega)
        refine wp_go (f' := (93, [.ref 28, .int (nI 1), .int (nI (k + 1)), .int (nI (low (k + 1))), .int (nI (sd (k + 1) (2 ^ (low (k + 1))))), .long x, .retAddr 0, .int (nI w)], [.int ((nI (sd (k + 1) (2 ^ (low (k + 1))))) &&& ((nI (2 ^ w)) ^^^ (-1))), .ref 38, .long x], MW A (upB B 38 f) F sw, 0, 0)) 3 rfl ?_
        rw [bx_sd (by omega)]
        have hb3 : sd (sd (k + 1) (2 ^ (low (k + 1)))) (2 ^ w) < 1024 := by first | omega | exact or_lt (by omega) (by omega) | exact and_lt (by omega) | exact and_lt_r (by omega) | exact sd_lt (by omega) | exact pow_lt (by omega)
        refine wp_lald rfl rfl (by omega) (by decide) ?_
        refine wp_eq (f' := (94, [.ref 28, .int (nI 1), .int (nI (k + 1)), .int (nI (low (k + 1))), .int (nI (sd (k + 1) (2 ^ (low (k + 1))))), .long x, .retAddr 0, .int (nI w)], [.long (f (sd (sd (k + 1) (2 ^ (low (k + 1)))) (2 ^ w))), .long x], MW A (upB B 38 f) F sw, 0, 0)) rfl ?_
        refine wp_go (f' := (104, [.ref 28, .int (nI 1), .int (nI (k + 1)), .int (nI (low (k + 1))), .int (nI (sd (k + 1) (2 ^ (low (k + 1))))), .long (x + (f (sd (sd (k + 1) (2 ^ (low (k + 1)))) (2 ^ w)))), .retAddr 0, .int ((nI w) + 1)], [], MW A (upB B 38 f) F sw, 0, 0)) 4 rfl ?_
        rw [nI_1]
        refine wp_go (f' := (51, [.ref 28, .int (nI 1), .int (nI (k + 1)), .int (nI (low (k + 1))), .int (nI (sd (k + 1) (2 ^ (low (k + 1))))), .long (x + (f (sd (sd (k + 1) (2 ^ (low (k + 1)))) (2 ^ w)))), .retAddr 0, .int (nI (w + 1))], [], MW A (upB B 38 f) F sw, 0, 0)) 1 rfl ?_
        refine wp_eq ?_ (ih2  )
        simp [h1]
    · skip
      refine wp_go (f' := (57, [.ref 28, .int (nI 1), .int (nI (k + 1)), .int (nI (low (k + 1))), .int (nI (sd (k + 1) (2 ^ (low (k + 1))))), .long (matG n nb true f (k + 1)), .retAddr 0, .int (nI n)], [.int (F 6), .int (nI n)], MW A (upB B 38 f) F sw, 0, 0)) 3 rfl ?_
      rw [hM.2.1]
      refine wp_go (f' := ((if (nI n) ≤ (nI n) then 107 else 60), [.ref 28, .int (nI 1), .int (nI (k + 1)), .int (nI (low (k + 1))), .int (nI (sd (k + 1) (2 ^ (low (k + 1))))), .long (matG n nb true f (k + 1)), .retAddr 0, .int (nI n)], [], MW A (upB B 38 f) F sw, 0, 0)) 1 rfl ?_
      refine wp_ite (fun _ => ?_) (fun h9 => absurd (nI_le (Nat.le_refl _) (by omega)) h9)
      refine wp_go (f' := (114, [.ref 28, .int (nI 1), .int (nI (k + 1)), .int (nI (low (k + 1))), .int (nI (sd (k + 1) (2 ^ (low (k + 1))))), .long (matG n nb true f (k + 1)), .retAddr 0, .int (nI n)], [.long (matG n nb true f (k + 1)), .int (nI (k + 1)), .ref 38], MW A (upB B 38 f) F sw, 0, 0)) 4 rfl ?_
      refine wp_last rfl rfl (by omega) (by decide) ?_
      refine wp_eq (f' := (115, [.ref 28, .int (nI 1), .int (nI (k + 1)), .int (nI (low (k + 1))), .int (nI (sd (k + 1) (2 ^ (low (k + 1))))), .long (matG n nb true f (k + 1)), .retAddr 0, .int (nI n)], [], MW A (upB B 38 (vp_updL f (k + 1) (matG n nb true f (k + 1)))) F sw, 0, 0)) rfl ?_
      refine wp_go (f' := (118, [.ref 28, .int (nI 1), .int ((nI (k + 1)) + 1), .int (nI (low (k + 1))), .int (nI (sd (k + 1) (2 ^ (low (k + 1))))), .long (matG n nb true f (k + 1)), .retAddr 0, .int (nI n)], [], MW A (upB B 38 (vp_updL f (k + 1) (matG n nb true f (k + 1)))) F sw, 0, 0)) 1 rfl ?_
      rw [nI_1]
      refine wp_go (f' := (9, [.ref 28, .int (nI 1), .int (nI ((k + 1) + 1)), .int (nI (low (k + 1))), .int (nI (sd (k + 1) (2 ^ (low (k + 1))))), .long (matG n nb true f (k + 1)), .retAddr 0, .int (nI n)], [], MW A (upB B 38 (vp_updL f (k + 1) (matG n nb true f (k + 1)))) F sw, 0, 0)) 1 rfl ?_
      exact ih (.int (nI (low (k + 1)))) (.int (nI (sd (k + 1) (2 ^ (low (k + 1)))))) (.long (matG n nb true f (k + 1))) (.retAddr 0) (.int (nI n))
  · intro  d3 d4 d5 d6 d7
    refine wp_go (f' := (11, [.ref 28, .int (nI 1), .int (nI (2 ^ n - 1 + 1)), d3, d4, d5, d6, d7], [.ref 28, .int (nI (2 ^ n - 1 + 1))], MW A (upB B 38 (tabN (matG n nb true) n (vp_updL (B 38) 0 1))) F sw, 0, 0)) 2 rfl ?_
    refine wp_call rfl rfl rfl (ev_up (ev_all hM) (by decide)) ?_
    refine wp_eq (f' := (14, [.ref 28, .int (nI 1), .int (nI (2 ^ n - 1 + 1)), d3, d4, d5, d6, d7], [.int (nI (2 ^ n - 1)), .int (nI (2 ^ n - 1 + 1))], MW A (upB B 38 (tabN (matG n nb true) n (vp_updL (B 38) 0 1))) F sw, 0, 0)) rfl ?_
    refine wp_go (f' := ((if (nI (2 ^ n - 1)) < (nI (2 ^ n - 1 + 1)) then 121 else 17), [.ref 28, .int (nI 1), .int (nI (2 ^ n - 1 + 1)), d3, d4, d5, d6, d7], [], MW A (upB B 38 (tabN (matG n nb true) n (vp_updL (B 38) 0 1))) F sw, 0, 0)) 1 rfl ?_
    refine wp_ite (fun _ => ?_) (fun h9 => absurd (nI_lt (by omega) (by omega)) h9)
    refine wp_go (f' := (126, [.ref 28, .int (nI 1), .int (nI (2 ^ n - 1 + 1)), d3, d4, d5, d6, d7], [.ref 28, .ref 38], MW A (upB B 38 (tabN (matG n nb true) n (vp_updL (B 38) 0 1))) F sw, 0, 0)) 3 rfl ?_
    refine wp_call rfl rfl rfl (ev_up (ev_all hM) (by decide)) ?_
    refine wp_eq (f' := (129, [.ref 28, .int (nI 1), .int (nI (2 ^ n - 1 + 1)), d3, d4, d5, d6, d7], [.int (nI (2 ^ n - 1)), .ref 38], MW A (upB B 38 (tabN (matG n nb true) n (vp_updL (B 38) 0 1))) F sw, 0, 0)) rfl ?_
    refine wp_lald rfl rfl (by omega) (by decide) ?_
    refine wp_eq (f' := (130, [.ref 28, .int (nI 1), .int (nI (2 ^ n - 1 + 1)), d3, d4, d5, d6, d7], [.long ((tabN (matG n nb true) n (vp_updL (B 38) 0 1)) (2 ^ n - 1))], MW A (upB B 38 (tabN (matG n nb true) n (vp_updL (B 38) 0 1))) F sw, 0, 0)) rfl ?_
    exact wp_lret rfl
end MM
