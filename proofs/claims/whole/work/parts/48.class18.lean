/-! the class's totals: tables by rows -/
/-- through the bits of t, from the lowest on: what is left is told -/
def bitF (g : Nat → Int64 → Int64) : Nat → Nat → Int64 → Int64
  | 0, _, a => a
  | k + 1, t, a => if t = 0 then a else bitF g k (t &&& (t - 1)) (g t a)
def bitN (g : Nat → Int64 → Int64) (t : Nat) (a : Int64) : Int64 := bitF g 1024 t a
theorem bitF_fuel {g : Nat → Int64 → Int64} : ∀ (k m t : Nat) (a : Int64), t ≤ k → t ≤ m → bitF g k t a = bitF g m t a
  | 0, 0, t, a, h1, h2 => rfl
  | 0, m + 1, t, a, h1, h2 => by have : t = 0 := by omega
                                 subst this; simp [bitF]
  | k + 1, 0, t, a, h1, h2 => by have : t = 0 := by omega
                                 subst this; simp [bitF]
  | k + 1, m + 1, t, a, h1, h2 => by
    simp only [bitF]
    by_cases h : t = 0
    · rw [if_pos h, if_pos h]
    · rw [if_neg h, if_neg h]
      have : t &&& (t - 1) ≤ t - 1 := Nat.and_le_right
      exact bitF_fuel k m _ _ (by omega) (by omega)
theorem bitN_0 (g : Nat → Int64 → Int64) (a : Int64) : bitN g 0 a = a := by
  unfold bitN
  rw [show (1024 : Nat) = 1023 + 1 from rfl]
  exact if_pos rfl
theorem bitF_succ (g : Nat → Int64 → Int64) (k t : Nat) (a : Int64) : bitF g (k + 1) t a = if t = 0 then a else bitF g k (t &&& (t - 1)) (g t a) := rfl
theorem bitN_s {g : Nat → Int64 → Int64} {t : Nat} {a : Int64} (ht : t < 1024) (h0 : ¬ t = 0) : bitN g t a = bitN g (t &&& (t - 1)) (g t a) := by
  have : t &&& (t - 1) ≤ t - 1 := Nat.and_le_right
  unfold bitN
  rw [show (1024 : Nat) = 1023 + 1 from rfl, bitF_succ, if_neg h0]
  exact bitF_fuel 1023 1024 _ _ (by omega) (by omega)
theorem bit_ind {P : Nat → Int64 → Prop} {g : Nat → Int64 → Int64} (hs : ∀ t a, t < 1024 → ¬ t = 0 → P (t &&& (t - 1)) (g t a) → P t a) : ∀ (t : Nat) (a : Int64), t < 1024 → P 0 (bitN g t a) → P t a := by
  refine wh_ind (P := fun t => ∀ a, t < 1024 → P 0 (bitN g t a) → P t a) (fun t => t) (fun t ih a ht h => ?_)
  by_cases h0 : t = 0
  · subst h0; rw [bitN_0] at h; exact h
  · have h2 : t &&& (t - 1) ≤ t - 1 := Nat.and_le_right
    rw [bitN_s ht h0] at h
    exact hs t a ht h0 (ih _ (by omega) _ (by omega) h)
/-- through all subsets of s, the empty one last -/
def sub0N (f : Nat → Int64 → Int64) (s : Nat) (a : Int64) : Int64 := f 0 (subN f s s a)
/-- matchings of s by smaller sets, as the class goes -/
def matC (nb : Nat → Nat) (full : Bool) (f : Nat → Int64) (s : Nat) : Int64 := bitN (fun t a => a + f (sd (s &&& (s - 1)) (2 ^ low t))) (nb (low s) &&& (s &&& (s - 1))) (if full then 0 else f (s &&& (s - 1)))
def joinC (nb : Nat → Nat) (f : Nat → Int64) (s : Nat) : Int64 := subN (fun t a => a - f (sd s t) <<< ((nI (inN nb t)).toInt64 &&& 63)) (s &&& (s - 1)) (s &&& (s - 1)) (1 <<< ((nI (inN nb s)).toInt64 &&& 63))
/-- one limb with the second lowest -/
def limbC (nb : Nat → Nat) (f : Nat → Int64) (s : Nat) : Nat → Int64 → Int64 := fun t a => if f (2 ^ low (s &&& (s - 1)) ||| t) = 0 then a else a + (nI (pop (nb (low s) &&& (2 ^ low (s &&& (s - 1)) ||| t)))).toInt64 * f (2 ^ low (s &&& (s - 1)) ||| t) * f (sd s (2 ^ low (s &&& (s - 1)) ||| t))
def treeC (nb : Nat → Nat) (f : Nat → Int64) (s : Nat) : Int64 := if s &&& (s - 1) = 0 then 1 else sub0N (limbC nb f s) (sd (s &&& (s - 1)) (2 ^ low (s &&& (s - 1)))) 0
def treeG (nb : Nat → Nat) (f : Nat → Int64) (s : Nat) : Int64 := if pcN nb s = s then treeC nb f s else 0
def forC (T f : Nat → Int64) (s : Nat) : Int64 := sub0N (fun t a => a + T (sd s t) * f t) (s &&& (s - 1)) 0
theorem ne_m1 {t : Nat} (ht : t < 1024) : ¬ nI t < 0 := nI_pos (n := t) (by omega)
section CC
variable {xs : Nat → Int32} {Ls : Nat} {A : Nat → Nat → Int32} {B : Nat → Nat → Int64} {F : Nat → Int32} {sw : Bool} {n : Nat} {nb : Nat → Nat}
theorem ev_cMat0_f (hC : CI A F n nb) (hR : RI A n nb) : mv_Ev xs Ls 4 63 [.ref 24, .int (nI 0)] (MW A B F false) (some (.long ((tabN (matC nb false) n (vp_updL (B 25) 0 1)) (2 ^ n - 1))), MW A (upB B 25 (tabN (matC nb false) n (vp_updL (B 25) 0 1))) F false, 0, 0) := by
  refine ev_of_wp rfl rfl rfl ?_
  have hn := hC.1
  have hp := pow10 hn
  have hp1 : 1 ≤ 2 ^ n := Nat.one_le_two_pow
  have hal := all_lt hn
  refine wp_go (f' := (4, [.ref 24, .int (nI 0), .retAddr 0, .retAddr 0, .retAddr 0, .retAddr 0, .retAddr 0, .retAddr 0], [.ref 1], MW A B F false, 0, 0)) 2 rfl ?_
  refine wp_call rfl rfl rfl (ev_up (ev_gAll hC) (by decide)) ?_
  refine wp_eq (f' := (7, [.ref 24, .int (nI 0), .retAddr 0, .retAddr 0, .retAddr 0, .retAddr 0, .retAddr 0, .retAddr 0], [.int (nI (2 ^ n - 1))], MW A B F false, 0, 0)) rfl ?_
  refine wp_go (f' := (14, [.ref 24, .int (nI 0), .int (nI (2 ^ n - 1)), .retAddr 0, .retAddr 0, .retAddr 0, .retAddr 0, .retAddr 0], [.long 1, .int (nI 0), .ref 25], MW A B F false, 0, 0)) 5 rfl ?_
  refine wp_last rfl rfl (by omega) (by decide) ?_
  refine wp_eq (f' := (15, [.ref 24, .int (nI 0), .int (nI (2 ^ n - 1)), .retAddr 0, .retAddr 0, .retAddr 0, .retAddr 0, .retAddr 0], [], MW A (upB B 25 (vp_updL (B 25) 0 1)) F false, 0, 0)) rfl ?_
  refine wp_go (f' := (17, [.ref 24, .int (nI 0), .int (nI (2 ^ n - 1)), .int (nI 1), .retAddr 0, .retAddr 0, .retAddr 0, .retAddr 0], [], MW A (upB B 25 (vp_updL (B 25) 0 1)) F false, 0, 0)) 2 rfl ?_
  refine for_ind (P := fun (k : Nat) (f : Nat → Int64) => ∀ e4 : Value, ∀ e5 : Value, ∀ e6 : Value, ∀ e7 : Value, mv_Wp xs Ls 3 0 false (some .long) mv_c63 (17, [.ref 24, .int (nI 0), .int (nI (2 ^ n - 1)), .int (nI (k + 1)), e4, e5, e6, e7], [], MW A (upB B 25 f) F false, 0, 0) (some (.long ((tabN (matC nb false) n (vp_updL (B 25) 0 1)) (2 ^ n - 1))), MW A (upB B 25 (tabN (matC nb false) n (vp_updL (B 25) 0 1))) F false, 0, 0)) (f := fun k f => vp_updL f (k + 1) (matC nb false f (k + 1))) (n := 2 ^ n - 1) ?_ (2 ^ n - 1) (vp_updL (B 25) 0 1) (Nat.le_refl _) ?_ _ _ _ _
  · intro k f hk ih e4 e5 e6 e7
    refine wp_go (f' := ((if (nI (2 ^ n - 1)) < (nI (k + 1)) then 115 else 22), [.ref 24, .int (nI 0), .int (nI (2 ^ n - 1)), .int (nI (k + 1)), e4, e5, e6, e7], [], MW A (upB B 25 f) F false, 0, 0)) 3 rfl ?_
    refine wp_ite (fun h9 => absurd h9 (nI_nlt (by omega) (by omega))) (fun _ => ?_)
    refine wp_go (f' := (26, [.ref 24, .int (nI 0), .int (nI (2 ^ n - 1)), .int (nI (k + 1)), e4, e5, e6, e7], [.int ((nI (k + 1)) - (nI 1)), .int (nI (k + 1))], MW A (upB B 25 f) F false, 0, 0)) 4 rfl ?_
    rw [pk_sub (by omega)]
    refine wp_go (f' := (27, [.ref 24, .int (nI 0), .int (nI (2 ^ n - 1)), .int (nI (k + 1)), e4, e5, e6, e7], [.int ((nI (k + 1)) &&& (nI ((k + 1) - 1)))], MW A (upB B 25 f) F false, 0, 0)) 1 rfl ?_
    rw [bx_and]
    have hb1 : (k + 1) &&& ((k + 1) - 1) < 1024 := by first | omega | exact or_lt (by omega) (by omega) | exact and_lt (by omega) | exact and_lt_r (by omega) | exact sd_lt (by omega) | exact pow_lt (by omega)
    refine wp_go (f' := ((if (nI 0) = 0 then 37 else 33), [.ref 24, .int (nI 0), .int (nI (2 ^ n - 1)), .int (nI (k + 1)), .int (nI ((k + 1) &&& ((k + 1) - 1))), e5, e6, e7], [], MW A (upB B 25 f) F false, 0, 0)) 3 rfl ?_
    refine wp_ite (fun _ => ?_) (fun h9 => absurd rfl h9)
    refine wp_go (f' := (43, [.ref 24, .int (nI 0), .int (nI (2 ^ n - 1)), .int (nI (k + 1)), .int (nI ((k + 1) &&& ((k + 1) - 1))), e5, e6, e7], [.int (nI ((k + 1) &&& ((k + 1) - 1))), .ref 25], MW A (upB B 25 f) F false, 0, 0)) 3 rfl ?_
    refine wp_lald rfl rfl (by omega) (by decide) ?_
    refine wp_eq (f' := (44, [.ref 24, .int (nI 0), .int (nI (2 ^ n - 1)), .int (nI (k + 1)), .int (nI ((k + 1) &&& ((k + 1) - 1))), e5, e6, e7], [.long (f ((k + 1) &&& ((k + 1) - 1)))], MW A (upB B 25 f) F false, 0, 0)) rfl ?_
    refine wp_go (f' := (54, [.ref 24, .int (nI 0), .int (nI (2 ^ n - 1)), .int (nI (k + 1)), .int (nI ((k + 1) &&& ((k + 1) - 1))), .long (f ((k + 1) &&& ((k + 1) - 1))), .retAddr 0, e7], [.int (nI (k + 1)), .ref 2], MW A (upB B 25 f) F false, 0, 0)) 5 rfl ?_
    refine wp_call rfl rfl rfl (ev_up (ev_low (s := k + 1) (by omega) (by omega) _) (by decide)) ?_
    refine wp_eq (f' := (57, [.ref 24, .int (nI 0), .int (nI (2 ^ n - 1)), .int (nI (k + 1)), .int (nI ((k + 1) &&& ((k + 1) - 1))), .long (f ((k + 1) &&& ((k + 1) - 1))), .retAddr 0, e7], [.int (nI (low (k + 1))), .ref 2], MW A (upB B 25 f) F false, 0, 0)) rfl ?_
    have hlw := low_lt (s := k + 1) (by omega) (by omega)
    refine wp_iald rfl rfl (by omega) (by decide) ?_
    refine wp_eq (f' := (58, [.ref 24, .int (nI 0), .int (nI (2 ^ n - 1)), .int (nI (k + 1)), .int (nI ((k + 1) &&& ((k + 1) - 1))), .long (f ((k + 1) &&& ((k + 1) - 1))), .retAddr 0, e7], [.int ((A 2) (low (k + 1)))], MW A (upB B 25 f) F false, 0, 0)) rfl ?_
    rw [hC.2.2.1 (low (k + 1)) (by omega)]
    have hnb := hC.2.2.2 (low (k + 1)) (by omega)
    refine wp_go (f' := (61, [.ref 24, .int (nI 0), .int (nI (2 ^ n - 1)), .int (nI (k + 1)), .int (nI ((k + 1) &&& ((k + 1) - 1))), .long (f ((k + 1) &&& ((k + 1) - 1))), .retAddr 0, e7], [.int ((nI (nb (low (k + 1)))) &&& (nI ((k + 1) &&& ((k + 1) - 1))))], MW A (upB B 25 f) F false, 0, 0)) 2 rfl ?_
    rw [bx_and]
    have hb2 : (nb (low (k + 1))) &&& ((k + 1) &&& ((k + 1) - 1)) < 1024 := by first | omega | exact or_lt (by omega) (by omega) | exact and_lt (by omega) | exact and_lt_r (by omega) | exact sd_lt (by omega) | exact pow_lt (by omega)
    refine wp_go (f' := (63, [.ref 24, .int (nI 0), .int (nI (2 ^ n - 1)), .int (nI (k + 1)), .int (nI ((k + 1) &&& ((k + 1) - 1))), .long (f ((k + 1) &&& ((k + 1) - 1))), .retAddr 0, .int (nI ((nb (low (k + 1))) &&& ((k + 1) &&& ((k + 1) - 1))))], [], MW A (upB B 25 f) F false, 0, 0)) 1 rfl ?_
    refine bit_ind (P := fun (t : Nat) (a : Int64) => mv_Wp xs Ls 3 0 false (some .long) mv_c63 (63, [.ref 24, .int (nI 0), .int (nI (2 ^ n - 1)), .int (nI (k + 1)), .int (nI ((k + 1) &&& ((k + 1) - 1))), .long a, .retAddr 0, .int (nI t)], [], MW A (upB B 25 f) F false, 0, 0) (some (.long ((tabN (matC nb false) n (vp_updL (B 25) 0 1)) (2 ^ n - 1))), MW A (upB B 25 (tabN (matC nb false) n (vp_updL (B 25) 0 1))) F false, 0, 0)) (g := fun t a => a + f (sd ((k + 1) &&& (k + 1 - 1)) (2 ^ low t))) ?_ ((nb (low (k + 1))) &&& ((k + 1) &&& ((k + 1) - 1))) (f ((k + 1) &&& ((k + 1) - 1))) (by omega) ?_
    · intro t a ht ht0 ih3
      have hlt := low_lt (s := t) ht ht0
      have htm : t &&& (t - 1) ≤ t - 1 := Nat.and_le_right
      refine wp_go (f' := ((if (nI t) = 0 then 101 else 68), [.ref 24, .int (nI 0), .int (nI (2 ^ n - 1)), .int (nI (k + 1)), .int (nI ((k + 1) &&& ((k + 1) - 1))), .long a, .retAddr 0, .int (nI t)], [], MW A (upB B 25 f) F false, 0, 0)) 2 rfl ?_
      refine wp_ite (fun h9 => absurd h9 (fun h8 => ht0 ((nI_eq (a := t) (b := 0) (by omega) (by omega)).mp h8))) (fun _ => ?_)
      refine wp_go (f' := (82, [.ref 24, .int (nI 0), .int (nI (2 ^ n - 1)), .int (nI (k + 1)), .int (nI ((k + 1) &&& ((k + 1) - 1))), .long a, .retAddr 0, .int (nI t)], [.int ((nI t) &&& (-(nI t))), .int (nI ((k + 1) &&& ((k + 1) - 1))), .ref 25, .long a], MW A (upB B 25 f) F false, 0, 0)) 8 rfl ?_
      rw [bx_low (by omega) (by omega)]
      have hb1 : 2 ^ low t < 1024 := by first | omega | exact or_lt (by omega) (by omega) | exact and_lt (by omega) | exact and_lt_r (by omega) | exact sd_lt (by omega) | exact pow_lt (by omega)
      refine wp_go (f' := (85, [.ref 24, .int (nI 0), .int (nI (2 ^ n - 1)), .int (nI (k + 1)), .int (nI ((k + 1) &&& ((k + 1) - 1))), .long a, .retAddr 0, .int (nI t)], [.int ((nI ((k + 1) &&& ((k + 1) - 1))) &&& ((nI (2 ^ low t)) ^^^ (-1))), .ref 25, .long a], MW A (upB B 25 f) F false, 0, 0)) 3 rfl ?_
      rw [bx_sd (by omega)]
      have hb2 : sd ((k + 1) &&& ((k + 1) - 1)) (2 ^ low t) < 1024 := by first | omega | exact or_lt (by omega) (by omega) | exact and_lt (by omega) | exact and_lt_r (by omega) | exact sd_lt (by omega) | exact pow_lt (by omega)
      refine wp_lald rfl rfl (by omega) (by decide) ?_
      refine wp_eq (f' := (86, [.ref 24, .int (nI 0), .int (nI (2 ^ n - 1)), .int (nI (k + 1)), .int (nI ((k + 1) &&& ((k + 1) - 1))), .long a, .retAddr 0, .int (nI t)], [.long (f (sd ((k + 1) &&& ((k + 1) - 1)) (2 ^ low t))), .long a], MW A (upB B 25 f) F false, 0, 0)) rfl ?_
      refine wp_go (f' := (95, [.ref 24, .int (nI 0), .int (nI (2 ^ n - 1)), .int (nI (k + 1)), .int (nI ((k + 1) &&& ((k + 1) - 1))), .long (a + (f (sd ((k + 1) &&& ((k + 1) - 1)) (2 ^ low t)))), .retAddr 0, .int (nI t)], [.int ((nI t) - (nI 1)), .int (nI t)], MW A (upB B 25 f) F false, 0, 0)) 6 rfl ?_
      rw [pk_sub (by omega)]
      refine wp_go (f' := (96, [.ref 24, .int (nI 0), .int (nI (2 ^ n - 1)), .int (nI (k + 1)), .int (nI ((k + 1) &&& ((k + 1) - 1))), .long (a + (f (sd ((k + 1) &&& ((k + 1) - 1)) (2 ^ low t)))), .retAddr 0, .int (nI t)], [.int ((nI t) &&& (nI (t - 1)))], MW A (upB B 25 f) F false, 0, 0)) 1 rfl ?_
      rw [bx_and]
      have hb3 : t &&& (t - 1) < 1024 := by first | omega | exact or_lt (by omega) (by omega) | exact and_lt (by omega) | exact and_lt_r (by omega) | exact sd_lt (by omega) | exact pow_lt (by omega)
      refine wp_go (f' := (63, [.ref 24, .int (nI 0), .int (nI (2 ^ n - 1)), .int (nI (k + 1)), .int (nI ((k + 1) &&& ((k + 1) - 1))), .long (a + (f (sd ((k + 1) &&& ((k + 1) - 1)) (2 ^ low t)))), .retAddr 0, .int (nI (t &&& (t - 1)))], [], MW A (upB B 25 f) F false, 0, 0)) 2 rfl ?_
      refine wp_eq ?_ (ih3)
      first | rfl | simp []
    · skip
      refine wp_go (f' := ((if (nI 0) = 0 then 101 else 68), [.ref 24, .int (nI 0), .int (nI (2 ^ n - 1)), .int (nI (k + 1)), .int (nI ((k + 1) &&& ((k + 1) - 1))), .long (matC nb false f (k + 1)), .retAddr 0, .int (nI 0)], [], MW A (upB B 25 f) F false, 0, 0)) 2 rfl ?_
      refine wp_ite (fun _ => ?_) (fun h9 => absurd rfl h9)
      refine wp_go (f' := (108, [.ref 24, .int (nI 0), .int (nI (2 ^ n - 1)), .int (nI (k + 1)), .int (nI ((k + 1) &&& ((k + 1) - 1))), .long (matC nb false f (k + 1)), .retAddr 0, .int (nI 0)], [.long (matC nb false f (k + 1)), .int (nI (k + 1)), .ref 25], MW A (upB B 25 f) F false, 0, 0)) 4 rfl ?_
      refine wp_last rfl rfl (by omega) (by decide) ?_
      refine wp_eq (f' := (109, [.ref 24, .int (nI 0), .int (nI (2 ^ n - 1)), .int (nI (k + 1)), .int (nI ((k + 1) &&& ((k + 1) - 1))), .long (matC nb false f (k + 1)), .retAddr 0, .int (nI 0)], [], MW A (upB B 25 (vp_updL f (k + 1) (matC nb false f (k + 1)))) F false, 0, 0)) rfl ?_
      refine wp_go (f' := (112, [.ref 24, .int (nI 0), .int (nI (2 ^ n - 1)), .int ((nI (k + 1)) + 1), .int (nI ((k + 1) &&& ((k + 1) - 1))), .long (matC nb false f (k + 1)), .retAddr 0, .int (nI 0)], [], MW A (upB B 25 (vp_updL f (k + 1) (matC nb false f (k + 1)))) F false, 0, 0)) 1 rfl ?_
      rw [nI_1]
      refine wp_go (f' := (17, [.ref 24, .int (nI 0), .int (nI (2 ^ n - 1)), .int (nI ((k + 1) + 1)), .int (nI ((k + 1) &&& ((k + 1) - 1))), .long (matC nb false f (k + 1)), .retAddr 0, .int (nI 0)], [], MW A (upB B 25 (vp_updL f (k + 1) (matC nb false f (k + 1)))) F false, 0, 0)) 1 rfl ?_
      exact ih (.int (nI ((k + 1) &&& ((k + 1) - 1)))) (.long (matC nb false f (k + 1))) (.retAddr 0) (.int (nI 0))
  · intro e4 e5 e6 e7
    refine wp_go (f' := ((if (nI (2 ^ n - 1)) < (nI (2 ^ n - 1 + 1)) then 115 else 22), [.ref 24, .int (nI 0), .int (nI (2 ^ n - 1)), .int (nI (2 ^ n - 1 + 1)), e4, e5, e6, e7], [], MW A (upB B 25 (tabN (matC nb false) n (vp_updL (B 25) 0 1))) F false, 0, 0)) 3 rfl ?_
    refine wp_ite (fun _ => ?_) (fun h9 => absurd (nI_lt (by omega) (by omega)) h9)
    refine wp_go (f' := (120, [.ref 24, .int (nI 0), .int (nI (2 ^ n - 1)), .int (nI (2 ^ n - 1 + 1)), e4, e5, e6, e7], [.int (nI (2 ^ n - 1)), .ref 25], MW A (upB B 25 (tabN (matC nb false) n (vp_updL (B 25) 0 1))) F false, 0, 0)) 3 rfl ?_
    refine wp_lald rfl rfl (by omega) (by decide) ?_
    refine wp_eq (f' := (121, [.ref 24, .int (nI 0), .int (nI (2 ^ n - 1)), .int (nI (2 ^ n - 1 + 1)), e4, e5, e6, e7], [.long ((tabN (matC nb false) n (vp_updL (B 25) 0 1)) (2 ^ n - 1))], MW A (upB B 25 (tabN (matC nb false) n (vp_updL (B 25) 0 1))) F false, 0, 0)) rfl ?_
    exact wp_lret rfl
theorem ev_cMat0_t (hC : CI A F n nb) (hR : RI A n nb) : mv_Ev xs Ls 4 63 [.ref 24, .int (nI 0)] (MW A B F true) (some (.long ((tabN (matC nb false) n (vp_updL (B 25) 0 1)) (2 ^ n - 1))), MW A (upB B 25 (tabN (matC nb false) n (vp_updL (B 25) 0 1))) F true, 0, 0) := by
  refine ev_of_wp rfl rfl rfl ?_
  have hn := hC.1
  have hp := pow10 hn
  have hp1 : 1 ≤ 2 ^ n := Nat.one_le_two_pow
  have hal := all_lt hn
  refine wp_go (f' := (4, [.ref 24, .int (nI 0), .retAddr 0, .retAddr 0, .retAddr 0, .retAddr 0, .retAddr 0, .retAddr 0], [.ref 1], MW A B F true, 0, 0)) 2 rfl ?_
  refine wp_call rfl rfl rfl (ev_up (ev_gAll hC) (by decide)) ?_
  refine wp_eq (f' := (7, [.ref 24, .int (nI 0), .retAddr 0, .retAddr 0, .retAddr 0, .retAddr 0, .retAddr 0, .retAddr 0], [.int (nI (2 ^ n - 1))], MW A B F true, 0, 0)) rfl ?_
  refine wp_go (f' := (14, [.ref 24, .int (nI 0), .int (nI (2 ^ n - 1)), .retAddr 0, .retAddr 0, .retAddr 0, .retAddr 0, .retAddr 0], [.long 1, .int (nI 0), .ref 26], MW A B F true, 0, 0)) 5 rfl ?_
  refine wp_last rfl rfl (by omega) (by decide) ?_
  refine wp_eq (f' := (15, [.ref 24, .int (nI 0), .int (nI (2 ^ n - 1)), .retAddr 0, .retAddr 0, .retAddr 0, .retAddr 0, .retAddr 0], [], MW A (upB B 25 (vp_updL (B 25) 0 1)) F true, 0, 0)) rfl ?_
  refine wp_go (f' := (17, [.ref 24, .int (nI 0), .int (nI (2 ^ n - 1)), .int (nI 1), .retAddr 0, .retAddr 0, .retAddr 0, .retAddr 0], [], MW A (upB B 25 (vp_updL (B 25) 0 1)) F true, 0, 0)) 2 rfl ?_
  refine for_ind (P := fun (k : Nat) (f : Nat → Int64) => ∀ e4 : Value, ∀ e5 : Value, ∀ e6 : Value, ∀ e7 : Value, mv_Wp xs Ls 3 0 false (some .long) mv_c63 (17, [.ref 24, .int (nI 0), .int (nI (2 ^ n - 1)), .int (nI (k + 1)), e4, e5, e6, e7], [], MW A (upB B 25 f) F true, 0, 0) (some (.long ((tabN (matC nb false) n (vp_updL (B 25) 0 1)) (2 ^ n - 1))), MW A (upB B 25 (tabN (matC nb false) n (vp_updL (B 25) 0 1))) F true, 0, 0)) (f := fun k f => vp_updL f (k + 1) (matC nb false f (k + 1))) (n := 2 ^ n - 1) ?_ (2 ^ n - 1) (vp_updL (B 25) 0 1) (Nat.le_refl _) ?_ _ _ _ _
  · intro k f hk ih e4 e5 e6 e7
    refine wp_go (f' := ((if (nI (2 ^ n - 1)) < (nI (k + 1)) then 115 else 22), [.ref 24, .int (nI 0), .int (nI (2 ^ n - 1)), .int (nI (k + 1)), e4, e5, e6, e7], [], MW A (upB B 25 f) F true, 0, 0)) 3 rfl ?_
    refine wp_ite (fun h9 => absurd h9 (nI_nlt (by omega) (by omega))) (fun _ => ?_)
    refine wp_go (f' := (26, [.ref 24, .int (nI 0), .int (nI (2 ^ n - 1)), .int (nI (k + 1)), e4, e5, e6, e7], [.int ((nI (k + 1)) - (nI 1)), .int (nI (k + 1))], MW A (upB B 25 f) F true, 0, 0)) 4 rfl ?_
    rw [pk_sub (by omega)]
    refine wp_go (f' := (27, [.ref 24, .int (nI 0), .int (nI (2 ^ n - 1)), .int (nI (k + 1)), e4, e5, e6, e7], [.int ((nI (k + 1)) &&& (nI ((k + 1) - 1)))], MW A (upB B 25 f) F true, 0, 0)) 1 rfl ?_
    rw [bx_and]
    have hb1 : (k + 1) &&& ((k + 1) - 1) < 1024 := by first | omega | exact or_lt (by omega) (by omega) | exact and_lt (by omega) | exact and_lt_r (by omega) | exact sd_lt (by omega) | exact pow_lt (by omega)
    refine wp_go (f' := ((if (nI 0) = 0 then 37 else 33), [.ref 24, .int (nI 0), .int (nI (2 ^ n - 1)), .int (nI (k + 1)), .int (nI ((k + 1) &&& ((k + 1) - 1))), e5, e6, e7], [], MW A (upB B 25 f) F true, 0, 0)) 3 rfl ?_
    refine wp_ite (fun _ => ?_) (fun h9 => absurd rfl h9)
    refine wp_go (f' := (43, [.ref 24, .int (nI 0), .int (nI (2 ^ n - 1)), .int (nI (k + 1)), .int (nI ((k + 1) &&& ((k + 1) - 1))), e5, e6, e7], [.int (nI ((k + 1) &&& ((k + 1) - 1))), .ref 26], MW A (upB B 25 f) F true, 0, 0)) 3 rfl ?_
    refine wp_lald rfl rfl (by omega) (by decide) ?_
    refine wp_eq (f' := (44, [.ref 24, .int (nI 0), .int (nI (2 ^ n - 1)), .int (nI (k + 1)), .int (nI ((k + 1) &&& ((k + 1) - 1))), e5, e6, e7], [.long (f ((k + 1) &&& ((k + 1) - 1)))], MW A (upB B 25 f) F true, 0, 0)) rfl ?_
    refine wp_go (f' := (54, [.ref 24, .int (nI 0), .int (nI (2 ^ n - 1)), .int (nI (k + 1)), .int (nI ((k + 1) &&& ((k + 1) - 1))), .long (f ((k + 1) &&& ((k + 1) - 1))), .retAddr 0, e7], [.int (nI (k + 1)), .ref 2], MW A (upB B 25 f) F true, 0, 0)) 5 rfl ?_
    refine wp_call rfl rfl rfl (ev_up (ev_low (s := k + 1) (by omega) (by omega) _) (by decide)) ?_
    refine wp_eq (f' := (57, [.ref 24, .int (nI 0), .int (nI (2 ^ n - 1)), .int (nI (k + 1)), .int (nI ((k + 1) &&& ((k + 1) - 1))), .long (f ((k + 1) &&& ((k + 1) - 1))), .retAddr 0, e7], [.int (nI (low (k + 1))), .ref 2], MW A (upB B 25 f) F true, 0, 0)) rfl ?_
    have hlw := low_lt (s := k + 1) (by omega) (by omega)
    refine wp_iald rfl rfl (by omega) (by decide) ?_
    refine wp_eq (f' := (58, [.ref 24, .int (nI 0), .int (nI (2 ^ n - 1)), .int (nI (k + 1)), .int (nI ((k + 1) &&& ((k + 1) - 1))), .long (f ((k + 1) &&& ((k + 1) - 1))), .retAddr 0, e7], [.int ((A 2) (low (k + 1)))], MW A (upB B 25 f) F true, 0, 0)) rfl ?_
    rw [hC.2.2.1 (low (k + 1)) (by omega)]
    have hnb := hC.2.2.2 (low (k + 1)) (by omega)
    refine wp_go (f' := (61, [.ref 24, .int (nI 0), .int (nI (2 ^ n - 1)), .int (nI (k + 1)), .int (nI ((k + 1) &&& ((k + 1) - 1))), .long (f ((k + 1) &&& ((k + 1) - 1))), .retAddr 0, e7], [.int ((nI (nb (low (k + 1)))) &&& (nI ((k + 1) &&& ((k + 1) - 1))))], MW A (upB B 25 f) F true, 0, 0)) 2 rfl ?_
    rw [bx_and]
    have hb2 : (nb (low (k + 1))) &&& ((k + 1) &&& ((k + 1) - 1)) < 1024 := by first | omega | exact or_lt (by omega) (by omega) | exact and_lt (by omega) | exact and_lt_r (by omega) | exact sd_lt (by omega) | exact pow_lt (by omega)
    refine wp_go (f' := (63, [.ref 24, .int (nI 0), .int (nI (2 ^ n - 1)), .int (nI (k + 1)), .int (nI ((k + 1) &&& ((k + 1) - 1))), .long (f ((k + 1) &&& ((k + 1) - 1))), .retAddr 0, .int (nI ((nb (low (k + 1))) &&& ((k + 1) &&& ((k + 1) - 1))))], [], MW A (upB B 25 f) F true, 0, 0)) 1 rfl ?_
    refine bit_ind (P := fun (t : Nat) (a : Int64) => mv_Wp xs Ls 3 0 false (some .long) mv_c63 (63, [.ref 24, .int (nI 0), .int (nI (2 ^ n - 1)), .int (nI (k + 1)), .int (nI ((k + 1) &&& ((k + 1) - 1))), .long a, .retAddr 0, .int (nI t)], [], MW A (upB B 25 f) F true, 0, 0) (some (.long ((tabN (matC nb false) n (vp_updL (B 25) 0 1)) (2 ^ n - 1))), MW A (upB B 25 (tabN (matC nb false) n (vp_updL (B 25) 0 1))) F true, 0, 0)) (g := fun t a => a + f (sd ((k + 1) &&& (k + 1 - 1)) (2 ^ low t))) ?_ ((nb (low (k + 1))) &&& ((k + 1) &&& ((k + 1) - 1))) (f ((k + 1) &&& ((k + 1) - 1))) (by omega) ?_
    · intro t a ht ht0 ih3
      have hlt := low_lt (s := t) ht ht0
      have htm : t &&& (t - 1) ≤ t - 1 := Nat.and_le_right
      refine wp_go (f' := ((if (nI t) = 0 then 101 else 68), [.ref 24, .int (nI 0), .int (nI (2 ^ n - 1)), .int (nI (k + 1)), .int (nI ((k + 1) &&& ((k + 1) - 1))), .long a, .retAddr 0, .int (nI t)], [], MW A (upB B 25 f) F true, 0, 0)) 2 rfl ?_
      refine wp_ite (fun h9 => absurd h9 (fun h8 => ht0 ((nI_eq (a := t) (b := 0) (by omega) (by omega)).mp h8))) (fun _ => ?_)
      refine wp_go (f' := (82, [.ref 24, .int (nI 0), .int (nI (2 ^ n - 1)), .int (nI (k + 1)), .int (nI ((k + 1) &&& ((k + 1) - 1))), .long a, .retAddr 0, .int (nI t)], [.int ((nI t) &&& (-(nI t))), .int (nI ((k + 1) &&& ((k + 1) - 1))), .ref 26, .long a], MW A (upB B 25 f) F true, 0, 0)) 8 rfl ?_
      rw [bx_low (by omega) (by omega)]
      have hb1 : 2 ^ low t < 1024 := by first | omega | exact or_lt (by omega) (by omega) | exact and_lt (by omega) | exact and_lt_r (by omega) | exact sd_lt (by omega) | exact pow_lt (by omega)
      refine wp_go (f' := (85, [.ref 24, .int (nI 0), .int (nI (2 ^ n - 1)), .int (nI (k + 1)), .int (nI ((k + 1) &&& ((k + 1) - 1))), .long a, .retAddr 0, .int (nI t)], [.int ((nI ((k + 1) &&& ((k + 1) - 1))) &&& ((nI (2 ^ low t)) ^^^ (-1))), .ref 26, .long a], MW A (upB B 25 f) F true, 0, 0)) 3 rfl ?_
      rw [bx_sd (by omega)]
      have hb2 : sd ((k + 1) &&& ((k + 1) - 1)) (2 ^ low t) < 1024 := by first | omega | exact or_lt (by omega) (by omega) | exact and_lt (by omega) | exact and_lt_r (by omega) | exact sd_lt (by omega) | exact pow_lt (by omega)
      refine wp_lald rfl rfl (by omega) (by decide) ?_
      refine wp_eq (f' := (86, [.ref 24, .int (nI 0), .int (nI (2 ^ n - 1)), .int (nI (k + 1)), .int (nI ((k + 1) &&& ((k + 1) - 1))), .long a, .retAddr 0, .int (nI t)], [.long (f (sd ((k + 1) &&& ((k + 1) - 1)) (2 ^ low t))), .long a], MW A (upB B 25 f) F true, 0, 0)) rfl ?_
      refine wp_go (f' := (95, [.ref 24, .int (nI 0), .int (nI (2 ^ n - 1)), .int (nI (k + 1)), .int (nI ((k + 1) &&& ((k + 1) - 1))), .long (a + (f (sd ((k + 1) &&& ((k + 1) - 1)) (2 ^ low t)))), .retAddr 0, .int (nI t)], [.int ((nI t) - (nI 1)), .int (nI t)], MW A (upB B 25 f) F true, 0, 0)) 6 rfl ?_
      rw [pk_sub (by omega)]
      refine wp_go (f' := (96, [.ref 24, .int (nI 0), .int (nI (2 ^ n - 1)), .int (nI (k + 1)), .int (nI ((k + 1) &&& ((k + 1) - 1))), .long (a + (f (sd ((k + 1) &&& ((k + 1) - 1)) (2 ^ low t)))), .retAddr 0, .int (nI t)], [.int ((nI t) &&& (nI (t - 1)))], MW A (upB B 25 f) F true, 0, 0)) 1 rfl ?_
      rw [bx_and]
      have hb3 : t &&& (t - 1) < 1024 := by first | omega | exact or_lt (by omega) (by omega) | exact and_lt (by omega) | exact and_lt_r (by omega) | exact sd_lt (by omega) | exact pow_lt (by omega)
      refine wp_go (f' := (63, [.ref 24, .int (nI 0), .int (nI (2 ^ n - 1)), .int (nI (k + 1)), .int (nI ((k + 1) &&& ((k + 1) - 1))), .long (a + (f (sd ((k + 1) &&& ((k + 1) - 1)) (2 ^ low t)))), .retAddr 0, .int (nI (t &&& (t - 1)))], [], MW A (upB B 25 f) F true, 0, 0)) 2 rfl ?_
      refine wp_eq ?_ (ih3)
      first | rfl | simp []
    · skip
      refine wp_go (f' := ((if (nI 0) = 0 then 101 else 68), [.ref 24, .int (nI 0), .int (nI (2 ^ n - 1)), .int (nI (k + 1)), .int (nI ((k + 1) &&& ((k + 1) - 1))), .long (matC nb false f (k + 1)), .retAddr 0, .int (nI 0)], [], MW A (upB B 25 f) F true, 0, 0)) 2 rfl ?_
      refine wp_ite (fun _ => ?_) (fun h9 => absurd rfl h9)
      refine wp_go (f' := (108, [.ref 24, .int (nI 0), .int (nI (2 ^ n - 1)), .int (nI (k + 1)), .int (nI ((k + 1) &&& ((k + 1) - 1))), .long (matC nb false f (k + 1)), .retAddr 0, .int (nI 0)], [.long (matC nb false f (k + 1)), .int (nI (k + 1)), .ref 26], MW A (upB B 25 f) F true, 0, 0)) 4 rfl ?_
      refine wp_last rfl rfl (by omega) (by decide) ?_
      refine wp_eq (f' := (109, [.ref 24, .int (nI 0), .int (nI (2 ^ n - 1)), .int (nI (k + 1)), .int (nI ((k + 1) &&& ((k + 1) - 1))), .long (matC nb false f (k + 1)), .retAddr 0, .int (nI 0)], [], MW A (upB B 25 (vp_updL f (k + 1) (matC nb false f (k + 1)))) F true, 0, 0)) rfl ?_
      refine wp_go (f' := (112, [.ref 24, .int (nI 0), .int (nI (2 ^ n - 1)), .int ((nI (k + 1)) + 1), .int (nI ((k + 1) &&& ((k + 1) - 1))), .long (matC nb false f (k + 1)), .retAddr 0, .int (nI 0)], [], MW A (upB B 25 (vp_updL f (k + 1) (matC nb false f (k + 1)))) F true, 0, 0)) 1 rfl ?_
      rw [nI_1]
      refine wp_go (f' := (17, [.ref 24, .int (nI 0), .int (nI (2 ^ n - 1)), .int (nI ((k + 1) + 1)), .int (nI ((k + 1) &&& ((k + 1) - 1))), .long (matC nb false f (k + 1)), .retAddr 0, .int (nI 0)], [], MW A (upB B 25 (vp_updL f (k + 1) (matC nb false f (k + 1)))) F true, 0, 0)) 1 rfl ?_
      exact ih (.int (nI ((k + 1) &&& ((k + 1) - 1)))) (.long (matC nb false f (k + 1))) (.retAddr 0) (.int (nI 0))
  · intro e4 e5 e6 e7
    refine wp_go (f' := ((if (nI (2 ^ n - 1)) < (nI (2 ^ n - 1 + 1)) then 115 else 22), [.ref 24, .int (nI 0), .int (nI (2 ^ n - 1)), .int (nI (2 ^ n - 1 + 1)), e4, e5, e6, e7], [], MW A (upB B 25 (tabN (matC nb false) n (vp_updL (B 25) 0 1))) F true, 0, 0)) 3 rfl ?_
    refine wp_ite (fun _ => ?_) (fun h9 => absurd (nI_lt (by omega) (by omega)) h9)
    refine wp_go (f' := (120, [.ref 24, .int (nI 0), .int (nI (2 ^ n - 1)), .int (nI (2 ^ n - 1 + 1)), e4, e5, e6, e7], [.int (nI (2 ^ n - 1)), .ref 26], MW A (upB B 25 (tabN (matC nb false) n (vp_updL (B 25) 0 1))) F true, 0, 0)) 3 rfl ?_
    refine wp_lald rfl rfl (by omega) (by decide) ?_
    refine wp_eq (f' := (121, [.ref 24, .int (nI 0), .int (nI (2 ^ n - 1)), .int (nI (2 ^ n - 1 + 1)), e4, e5, e6, e7], [.long ((tabN (matC nb false) n (vp_updL (B 25) 0 1)) (2 ^ n - 1))], MW A (upB B 25 (tabN (matC nb false) n (vp_updL (B 25) 0 1))) F true, 0, 0)) rfl ?_
    exact wp_lret rfl
theorem ev_cMat0 (hC : CI A F n nb) (hR : RI A n nb) : mv_Ev xs Ls 4 63 [.ref 24, .int (nI 0)] (MW A B F sw) (some (.long ((tabN (matC nb false) n (vp_updL (B 25) 0 1)) (2 ^ n - 1))), MW A (upB B 25 (tabN (matC nb false) n (vp_updL (B 25) 0 1))) F sw, 0, 0) := by
  cases sw
  · exact ev_cMat0_f hC hR
  · exact ev_cMat0_t hC hR
theorem ev_cMat1_f (hC : CI A F n nb) (hR : RI A n nb) : mv_Ev xs Ls 4 63 [.ref 24, .int (nI 1)] (MW A B F false) (some (.long ((tabN (matC nb true) n (vp_updL (B 25) 0 1)) (2 ^ n - 1))), MW A (upB B 25 (tabN (matC nb true) n (vp_updL (B 25) 0 1))) F false, 0, 0) := by
  refine ev_of_wp rfl rfl rfl ?_
  have hn := hC.1
  have hp := pow10 hn
  have hp1 : 1 ≤ 2 ^ n := Nat.one_le_two_pow
  have hal := all_lt hn
  refine wp_go (f' := (4, [.ref 24, .int (nI 1), .retAddr 0, .retAddr 0, .retAddr 0, .retAddr 0, .retAddr 0, .retAddr 0], [.ref 1], MW A B F false, 0, 0)) 2 rfl ?_
  refine wp_call rfl rfl rfl (ev_up (ev_gAll hC) (by decide)) ?_
  refine wp_eq (f' := (7, [.ref 24, .int (nI 1), .retAddr 0, .retAddr 0, .retAddr 0, .retAddr 0, .retAddr 0, .retAddr 0], [.int (nI (2 ^ n - 1))], MW A B F false, 0, 0)) rfl ?_
  refine wp_go (f' := (14, [.ref 24, .int (nI 1), .int (nI (2 ^ n - 1)), .retAddr 0, .retAddr 0, .retAddr 0, .retAddr 0, .retAddr 0], [.long 1, .int (nI 0), .ref 25], MW A B F false, 0, 0)) 5 rfl ?_
  refine wp_last rfl rfl (by omega) (by decide) ?_
  refine wp_eq (f' := (15, [.ref 24, .int (nI 1), .int (nI (2 ^ n - 1)), .retAddr 0, .retAddr 0, .retAddr 0, .retAddr 0, .retAddr 0], [], MW A (upB B 25 (vp_updL (B 25) 0 1)) F false, 0, 0)) rfl ?_
  refine wp_go (f' := (17, [.ref 24, .int (nI 1), .int (nI (2 ^ n - 1)), .int (nI 1), .retAddr 0, .retAddr 0, .retAddr 0, .retAddr 0], [], MW A (upB B 25 (vp_updL (B 25) 0 1)) F false, 0, 0)) 2 rfl ?_
  refine for_ind (P := fun (k : Nat) (f : Nat → Int64) => ∀ e4 : Value, ∀ e5 : Value, ∀ e6 : Value, ∀ e7 : Value, mv_Wp xs Ls 3 0 false (some .long) mv_c63 (17, [.ref 24, .int (nI 1), .int (nI (2 ^ n - 1)), .int (nI (k + 1)), e4, e5, e6, e7], [], MW A (upB B 25 f) F false, 0, 0) (some (.long ((tabN (matC nb true) n (vp_updL (B 25) 0 1)) (2 ^ n - 1))), MW A (upB B 25 (tabN (matC nb true) n (vp_updL (B 25) 0 1))) F false, 0, 0)) (f := fun k f => vp_updL f (k + 1) (matC nb true f (k + 1))) (n := 2 ^ n - 1) ?_ (2 ^ n - 1) (vp_updL (B 25) 0 1) (Nat.le_refl _) ?_ _ _ _ _
  · intro k f hk ih e4 e5 e6 e7
    refine wp_go (f' := ((if (nI (2 ^ n - 1)) < (nI (k + 1)) then 115 else 22), [.ref 24, .int (nI 1), .int (nI (2 ^ n - 1)), .int (nI (k + 1)), e4, e5, e6, e7], [], MW A (upB B 25 f) F false, 0, 0)) 3 rfl ?_
    refine wp_ite (fun h9 => absurd h9 (nI_nlt (by omega) (by omega))) (fun _ => ?_)
    refine wp_go (f' := (26, [.ref 24, .int (nI 1), .int (nI (2 ^ n - 1)), .int (nI (k + 1)), e4, e5, e6, e7], [.int ((nI (k + 1)) - (nI 1)), .int (nI (k + 1))], MW A (upB B 25 f) F false, 0, 0)) 4 rfl ?_
    rw [pk_sub (by omega)]
    refine wp_go (f' := (27, [.ref 24, .int (nI 1), .int (nI (2 ^ n - 1)), .int (nI (k + 1)), e4, e5, e6, e7], [.int ((nI (k + 1)) &&& (nI ((k + 1) - 1)))], MW A (upB B 25 f) F false, 0, 0)) 1 rfl ?_
    rw [bx_and]
    have hb1 : (k + 1) &&& ((k + 1) - 1) < 1024 := by first | omega | exact or_lt (by omega) (by omega) | exact and_lt (by omega) | exact and_lt_r (by omega) | exact sd_lt (by omega) | exact pow_lt (by omega)
    refine wp_go (f' := ((if (nI 1) = 0 then 37 else 33), [.ref 24, .int (nI 1), .int (nI (2 ^ n - 1)), .int (nI (k + 1)), .int (nI ((k + 1) &&& ((k + 1) - 1))), e5, e6, e7], [], MW A (upB B 25 f) F false, 0, 0)) 3 rfl ?_
    refine wp_ite (fun h9 => absurd h9 (by decide : ¬ nI 1 = 0)) (fun _ => ?_)
    refine wp_go (f' := (54, [.ref 24, .int (nI 1), .int (nI (2 ^ n - 1)), .int (nI (k + 1)), .int (nI ((k + 1) &&& ((k + 1) - 1))), .long 0, .retAddr 0, e7], [.int (nI (k + 1)), .ref 2], MW A (upB B 25 f) F false, 0, 0)) 7 rfl ?_
    refine wp_call rfl rfl rfl (ev_up (ev_low (s := k + 1) (by omega) (by omega) _) (by decide)) ?_
    refine wp_eq (f' := (57, [.ref 24, .int (nI 1), .int (nI (2 ^ n - 1)), .int (nI (k + 1)), .int (nI ((k + 1) &&& ((k + 1) - 1))), .long 0, .retAddr 0, e7], [.int (nI (low (k + 1))), .ref 2], MW A (upB B 25 f) F false, 0, 0)) rfl ?_
    have hlw := low_lt (s := k + 1) (by omega) (by omega)
    refine wp_iald rfl rfl (by omega) (by decide) ?_
    refine wp_eq (f' := (58, [.ref 24, .int (nI 1), .int (nI (2 ^ n - 1)), .int (nI (k + 1)), .int (nI ((k + 1) &&& ((k + 1) - 1))), .long 0, .retAddr 0, e7], [.int ((A 2) (low (k + 1)))], MW A (upB B 25 f) F false, 0, 0)) rfl ?_
    rw [hC.2.2.1 (low (k + 1)) (by omega)]
    have hnb := hC.2.2.2 (low (k + 1)) (by omega)
    refine wp_go (f' := (61, [.ref 24, .int (nI 1), .int (nI (2 ^ n - 1)), .int (nI (k + 1)), .int (nI ((k + 1) &&& ((k + 1) - 1))), .long 0, .retAddr 0, e7], [.int ((nI (nb (low (k + 1)))) &&& (nI ((k + 1) &&& ((k + 1) - 1))))], MW A (upB B 25 f) F false, 0, 0)) 2 rfl ?_
    rw [bx_and]
    have hb2 : (nb (low (k + 1))) &&& ((k + 1) &&& ((k + 1) - 1)) < 1024 := by first | omega | exact or_lt (by omega) (by omega) | exact and_lt (by omega) | exact and_lt_r (by omega) | exact sd_lt (by omega) | exact pow_lt (by omega)
    refine wp_go (f' := (63, [.ref 24, .int (nI 1), .int (nI (2 ^ n - 1)), .int (nI (k + 1)), .int (nI ((k + 1) &&& ((k + 1) - 1))), .long 0, .retAddr 0, .int (nI ((nb (low (k + 1))) &&& ((k + 1) &&& ((k + 1) - 1))))], [], MW A (upB B 25 f) F false, 0, 0)) 1 rfl ?_
    refine bit_ind (P := fun (t : Nat) (a : Int64) => mv_Wp xs Ls 3 0 false (some .long) mv_c63 (63, [.ref 24, .int (nI 1), .int (nI (2 ^ n - 1)), .int (nI (k + 1)), .int (nI ((k + 1) &&& ((k + 1) - 1))), .long a, .retAddr 0, .int (nI t)], [], MW A (upB B 25 f) F false, 0, 0) (some (.long ((tabN (matC nb true) n (vp_updL (B 25) 0 1)) (2 ^ n - 1))), MW A (upB B 25 (tabN (matC nb true) n (vp_updL (B 25) 0 1))) F false, 0, 0)) (g := fun t a => a + f (sd ((k + 1) &&& (k + 1 - 1)) (2 ^ low t))) ?_ ((nb (low (k + 1))) &&& ((k + 1) &&& ((k + 1) - 1))) 0 (by omega) ?_
    · intro t a ht ht0 ih3
      have hlt := low_lt (s := t) ht ht0
      have htm : t &&& (t - 1) ≤ t - 1 := Nat.and_le_right
      refine wp_go (f' := ((if (nI t) = 0 then 101 else 68), [.ref 24, .int (nI 1), .int (nI (2 ^ n - 1)), .int (nI (k + 1)), .int (nI ((k + 1) &&& ((k + 1) - 1))), .long a, .retAddr 0, .int (nI t)], [], MW A (upB B 25 f) F false, 0, 0)) 2 rfl ?_
      refine wp_ite (fun h9 => absurd h9 (fun h8 => ht0 ((nI_eq (a := t) (b := 0) (by omega) (by omega)).mp h8))) (fun _ => ?_)
      refine wp_go (f' := (82, [.ref 24, .int (nI 1), .int (nI (2 ^ n - 1)), .int (nI (k + 1)), .int (nI ((k + 1) &&& ((k + 1) - 1))), .long a, .retAddr 0, .int (nI t)], [.int ((nI t) &&& (-(nI t))), .int (nI ((k + 1) &&& ((k + 1) - 1))), .ref 25, .long a], MW A (upB B 25 f) F false, 0, 0)) 8 rfl ?_
      rw [bx_low (by omega) (by omega)]
      have hb1 : 2 ^ low t < 1024 := by first | omega | exact or_lt (by omega) (by omega) | exact and_lt (by omega) | exact and_lt_r (by omega) | exact sd_lt (by omega) | exact pow_lt (by omega)
      refine wp_go (f' := (85, [.ref 24, .int (nI 1), .int (nI (2 ^ n - 1)), .int (nI (k + 1)), .int (nI ((k + 1) &&& ((k + 1) - 1))), .long a, .retAddr 0, .int (nI t)], [.int ((nI ((k + 1) &&& ((k + 1) - 1))) &&& ((nI (2 ^ low t)) ^^^ (-1))), .ref 25, .long a], MW A (upB B 25 f) F false, 0, 0)) 3 rfl ?_
      rw [bx_sd (by omega)]
      have hb2 : sd ((k + 1) &&& ((k + 1) - 1)) (2 ^ low t) < 1024 := by first | omega | exact or_lt (by omega) (by omega) | exact and_lt (by omega) | exact and_lt_r (by omega) | exact sd_lt (by omega) | exact pow_lt (by omega)
      refine wp_lald rfl rfl (by omega) (by decide) ?_
      refine wp_eq (f' := (86, [.ref 24, .int (nI 1), .int (nI (2 ^ n - 1)), .int (nI (k + 1)), .int (nI ((k + 1) &&& ((k + 1) - 1))), .long a, .retAddr 0, .int (nI t)], [.long (f (sd ((k + 1) &&& ((k + 1) - 1)) (2 ^ low t))), .long a], MW A (upB B 25 f) F false, 0, 0)) rfl ?_
      refine wp_go (f' := (95, [.ref 24, .int (nI 1), .int (nI (2 ^ n - 1)), .int (nI (k + 1)), .int (nI ((k + 1) &&& ((k + 1) - 1))), .long (a + (f (sd ((k + 1) &&& ((k + 1) - 1)) (2 ^ low t)))), .retAddr 0, .int (nI t)], [.int ((nI t) - (nI 1)), .int (nI t)], MW A (upB B 25 f) F false, 0, 0)) 6 rfl ?_
      rw [pk_sub (by omega)]
      refine wp_go (f' := (96, [.ref 24, .int (nI 1), .int (nI (2 ^ n - 1)), .int (nI (k + 1)), .int (nI ((k + 1) &&& ((k + 1) - 1))), .long (a + (f (sd ((k + 1) &&& ((k + 1) - 1)) (2 ^ low t)))), .retAddr 0, .int (nI t)], [.int ((nI t) &&& (nI (t - 1)))], MW A (upB B 25 f) F false, 0, 0)) 1 rfl ?_
      rw [bx_and]
      have hb3 : t &&& (t - 1) < 1024 := by first | omega | exact or_lt (by omega) (by omega) | exact and_lt (by omega) | exact and_lt_r (by omega) | exact sd_lt (by omega) | exact pow_lt (by omega)
      refine wp_go (f' := (63, [.ref 24, .int (nI 1), .int (nI (2 ^ n - 1)), .int (nI (k + 1)), .int (nI ((k + 1) &&& ((k + 1) - 1))), .long (a + (f (sd ((k + 1) &&& ((k + 1) - 1)) (2 ^ low t)))), .retAddr 0, .int (nI (t &&& (t - 1)))], [], MW A (upB B 25 f) F false, 0, 0)) 2 rfl ?_
      refine wp_eq ?_ (ih3)
      first | rfl | simp []
    · skip
      refine wp_go (f' := ((if (nI 0) = 0 then 101 else 68), [.ref 24, .int (nI 1), .int (nI (2 ^ n - 1)), .int (nI (k + 1)), .int (nI ((k + 1) &&& ((k + 1) - 1))), .long (matC nb true f (k + 1)), .retAddr 0, .int (nI 0)], [], MW A (upB B 25 f) F false, 0, 0)) 2 rfl ?_
      refine wp_ite (fun _ => ?_) (fun h9 => absurd rfl h9)
      refine wp_go (f' := (108, [.ref 24, .int (nI 1), .int (nI (2 ^ n - 1)), .int (nI (k + 1)), .int (nI ((k + 1) &&& ((k + 1) - 1))), .long (matC nb true f (k + 1)), .retAddr 0, .int (nI 0)], [.long (matC nb true f (k + 1)), .int (nI (k + 1)), .ref 25], MW A (upB B 25 f) F false, 0, 0)) 4 rfl ?_
      refine wp_last rfl rfl (by omega) (by decide) ?_
      refine wp_eq (f' := (109, [.ref 24, .int (nI 1), .int (nI (2 ^ n - 1)), .int (nI (k + 1)), .int (nI ((k + 1) &&& ((k + 1) - 1))), .long (matC nb true f (k + 1)), .retAddr 0, .int (nI 0)], [], MW A (upB B 25 (vp_updL f (k + 1) (matC nb true f (k + 1)))) F false, 0, 0)) rfl ?_
      refine wp_go (f' := (112, [.ref 24, .int (nI 1), .int (nI (2 ^ n - 1)), .int ((nI (k + 1)) + 1), .int (nI ((k + 1) &&& ((k + 1) - 1))), .long (matC nb true f (k + 1)), .retAddr 0, .int (nI 0)], [], MW A (upB B 25 (vp_updL f (k + 1) (matC nb true f (k + 1)))) F false, 0, 0)) 1 rfl ?_
      rw [nI_1]
      refine wp_go (f' := (17, [.ref 24, .int (nI 1), .int (nI (2 ^ n - 1)), .int (nI ((k + 1) + 1)), .int (nI ((k + 1) &&& ((k + 1) - 1))), .long (matC nb true f (k + 1)), .retAddr 0, .int (nI 0)], [], MW A (upB B 25 (vp_updL f (k + 1) (matC nb true f (k + 1)))) F false, 0, 0)) 1 rfl ?_
      exact ih (.int (nI ((k + 1) &&& ((k + 1) - 1)))) (.long (matC nb true f (k + 1))) (.retAddr 0) (.int (nI 0))
  · intro e4 e5 e6 e7
    refine wp_go (f' := ((if (nI (2 ^ n - 1)) < (nI (2 ^ n - 1 + 1)) then 115 else 22), [.ref 24, .int (nI 1), .int (nI (2 ^ n - 1)), .int (nI (2 ^ n - 1 + 1)), e4, e5, e6, e7], [], MW A (upB B 25 (tabN (matC nb true) n (vp_updL (B 25) 0 1))) F false, 0, 0)) 3 rfl ?_
    refine wp_ite (fun _ => ?_) (fun h9 => absurd (nI_lt (by omega) (by omega)) h9)
    refine wp_go (f' := (120, [.ref 24, .int (nI 1), .int (nI (2 ^ n - 1)), .int (nI (2 ^ n - 1 + 1)), e4, e5, e6, e7], [.int (nI (2 ^ n - 1)), .ref 25], MW A (upB B 25 (tabN (matC nb true) n (vp_updL (B 25) 0 1))) F false, 0, 0)) 3 rfl ?_
    refine wp_lald rfl rfl (by omega) (by decide) ?_
    refine wp_eq (f' := (121, [.ref 24, .int (nI 1), .int (nI (2 ^ n - 1)), .int (nI (2 ^ n - 1 + 1)), e4, e5, e6, e7], [.long ((tabN (matC nb true) n (vp_updL (B 25) 0 1)) (2 ^ n - 1))], MW A (upB B 25 (tabN (matC nb true) n (vp_updL (B 25) 0 1))) F false, 0, 0)) rfl ?_
    exact wp_lret rfl
theorem ev_cMat1_t (hC : CI A F n nb) (hR : RI A n nb) : mv_Ev xs Ls 4 63 [.ref 24, .int (nI 1)] (MW A B F true) (some (.long ((tabN (matC nb true) n (vp_updL (B 25) 0 1)) (2 ^ n - 1))), MW A (upB B 25 (tabN (matC nb true) n (vp_updL (B 25) 0 1))) F true, 0, 0) := by
  refine ev_of_wp rfl rfl rfl ?_
  have hn := hC.1
  have hp := pow10 hn
  have hp1 : 1 ≤ 2 ^ n := Nat.one_le_two_pow
  have hal := all_lt hn
  refine wp_go (f' := (4, [.ref 24, .int (nI 1), .retAddr 0, .retAddr 0, .retAddr 0, .retAddr 0, .retAddr 0, .retAddr 0], [.ref 1], MW A B F true, 0, 0)) 2 rfl ?_
  refine wp_call rfl rfl rfl (ev_up (ev_gAll hC) (by decide)) ?_
  refine wp_eq (f' := (7, [.ref 24, .int (nI 1), .retAddr 0, .retAddr 0, .retAddr 0, .retAddr 0, .retAddr 0, .retAddr 0], [.int (nI (2 ^ n - 1))], MW A B F true, 0, 0)) rfl ?_
  refine wp_go (f' := (14, [.ref 24, .int (nI 1), .int (nI (2 ^ n - 1)), .retAddr 0, .retAddr 0, .retAddr 0, .retAddr 0, .retAddr 0], [.long 1, .int (nI 0), .ref 26], MW A B F true, 0, 0)) 5 rfl ?_
  refine wp_last rfl rfl (by omega) (by decide) ?_
  refine wp_eq (f' := (15, [.ref 24, .int (nI 1), .int (nI (2 ^ n - 1)), .retAddr 0, .retAddr 0, .retAddr 0, .retAddr 0, .retAddr 0], [], MW A (upB B 25 (vp_updL (B 25) 0 1)) F true, 0, 0)) rfl ?_
  refine wp_go (f' := (17, [.ref 24, .int (nI 1), .int (nI (2 ^ n - 1)), .int (nI 1), .retAddr 0, .retAddr 0, .retAddr 0, .retAddr 0], [], MW A (upB B 25 (vp_updL (B 25) 0 1)) F true, 0, 0)) 2 rfl ?_
  refine for_ind (P := fun (k : Nat) (f : Nat → Int64) => ∀ e4 : Value, ∀ e5 : Value, ∀ e6 : Value, ∀ e7 : Value, mv_Wp xs Ls 3 0 false (some .long) mv_c63 (17, [.ref 24, .int (nI 1), .int (nI (2 ^ n - 1)), .int (nI (k + 1)), e4, e5, e6, e7], [], MW A (upB B 25 f) F true, 0, 0) (some (.long ((tabN (matC nb true) n (vp_updL (B 25) 0 1)) (2 ^ n - 1))), MW A (upB B 25 (tabN (matC nb true) n (vp_updL (B 25) 0 1))) F true, 0, 0)) (f := fun k f => vp_updL f (k + 1) (matC nb true f (k + 1))) (n := 2 ^ n - 1) ?_ (2 ^ n - 1) (vp_updL (B 25) 0 1) (Nat.le_refl _) ?_ _ _ _ _
  · intro k f hk ih e4 e5 e6 e7
    refine wp_go (f' := ((if (nI (2 ^ n - 1)) < (nI (k + 1)) then 115 else 22), [.ref 24, .int (nI 1), .int (nI (2 ^ n - 1)), .int (nI (k + 1)), e4, e5, e6, e7], [], MW A (upB B 25 f) F true, 0, 0)) 3 rfl ?_
    refine wp_ite (fun h9 => absurd h9 (nI_nlt (by omega) (by omega))) (fun _ => ?_)
    refine wp_go (f' := (26, [.ref 24, .int (nI 1), .int (nI (2 ^ n - 1)), .int (nI (k + 1)), e4, e5, e6, e7], [.int ((nI (k + 1)) - (nI 1)), .int (nI (k + 1))], MW A (upB B 25 f) F true, 0, 0)) 4 rfl ?_
    rw [pk_sub (by omega)]
    refine wp_go (f' := (27, [.ref 24, .int (nI 1), .int (nI (2 ^ n - 1)), .int (nI (k + 1)), e4, e5, e6, e7], [.int ((nI (k + 1)) &&& (nI ((k + 1) - 1)))], MW A (upB B 25 f) F true, 0, 0)) 1 rfl ?_
    rw [bx_and]
    have hb1 : (k + 1) &&& ((k + 1) - 1) < 1024 := by first | omega | exact or_lt (by omega) (by omega) | exact and_lt (by omega) | exact and_lt_r (by omega) | exact sd_lt (by omega) | exact pow_lt (by omega)
    refine wp_go (f' := ((if (nI 1) = 0 then 37 else 33), [.ref 24, .int (nI 1), .int (nI (2 ^ n - 1)), .int (nI (k + 1)), .int (nI ((k + 1) &&& ((k + 1) - 1))), e5, e6, e7], [], MW A (upB B 25 f) F true, 0, 0)) 3 rfl ?_
    refine wp_ite (fun h9 => absurd h9 (by decide : ¬ nI 1 = 0)) (fun _ => ?_)
    refine wp_go (f' := (54, [.ref 24, .int (nI 1), .int (nI (2 ^ n - 1)), .int (nI (k + 1)), .int (nI ((k + 1) &&& ((k + 1) - 1))), .long 0, .retAddr 0, e7], [.int (nI (k + 1)), .ref 2], MW A (upB B 25 f) F true, 0, 0)) 7 rfl ?_
    refine wp_call rfl rfl rfl (ev_up (ev_low (s := k + 1) (by omega) (by omega) _) (by decide)) ?_
    refine wp_eq (f' := (57, [.ref 24, .int (nI 1), .int (nI (2 ^ n - 1)), .int (nI (k + 1)), .int (nI ((k + 1) &&& ((k + 1) - 1))), .long 0, .retAddr 0, e7], [.int (nI (low (k + 1))), .ref 2], MW A (upB B 25 f) F true, 0, 0)) rfl ?_
    have hlw := low_lt (s := k + 1) (by omega) (by omega)
    refine wp_iald rfl rfl (by omega) (by decide) ?_
    refine wp_eq (f' := (58, [.ref 24, .int (nI 1), .int (nI (2 ^ n - 1)), .int (nI (k + 1)), .int (nI ((k + 1) &&& ((k + 1) - 1))), .long 0, .retAddr 0, e7], [.int ((A 2) (low (k + 1)))], MW A (upB B 25 f) F true, 0, 0)) rfl ?_
    rw [hC.2.2.1 (low (k + 1)) (by omega)]
    have hnb := hC.2.2.2 (low (k + 1)) (by omega)
    refine wp_go (f' := (61, [.ref 24, .int (nI 1), .int (nI (2 ^ n - 1)), .int (nI (k + 1)), .int (nI ((k + 1) &&& ((k + 1) - 1))), .long 0, .retAddr 0, e7], [.int ((nI (nb (low (k + 1)))) &&& (nI ((k + 1) &&& ((k + 1) - 1))))], MW A (upB B 25 f) F true, 0, 0)) 2 rfl ?_
    rw [bx_and]
    have hb2 : (nb (low (k + 1))) &&& ((k + 1) &&& ((k + 1) - 1)) < 1024 := by first | omega | exact or_lt (by omega) (by omega) | exact and_lt (by omega) | exact and_lt_r (by omega) | exact sd_lt (by omega) | exact pow_lt (by omega)
    refine wp_go (f' := (63, [.ref 24, .int (nI 1), .int (nI (2 ^ n - 1)), .int (nI (k + 1)), .int (nI ((k + 1) &&& ((k + 1) - 1))), .long 0, .retAddr 0, .int (nI ((nb (low (k + 1))) &&& ((k + 1) &&& ((k + 1) - 1))))], [], MW A (upB B 25 f) F true, 0, 0)) 1 rfl ?_
    refine bit_ind (P := fun (t : Nat) (a : Int64) => mv_Wp xs Ls 3 0 false (some .long) mv_c63 (63, [.ref 24, .int (nI 1), .int (nI (2 ^ n - 1)), .int (nI (k + 1)), .int (nI ((k + 1) &&& ((k + 1) - 1))), .long a, .retAddr 0, .int (nI t)], [], MW A (upB B 25 f) F true, 0, 0) (some (.long ((tabN (matC nb true) n (vp_updL (B 25) 0 1)) (2 ^ n - 1))), MW A (upB B 25 (tabN (matC nb true) n (vp_updL (B 25) 0 1))) F true, 0, 0)) (g := fun t a => a + f (sd ((k + 1) &&& (k + 1 - 1)) (2 ^ low t))) ?_ ((nb (low (k + 1))) &&& ((k + 1) &&& ((k + 1) - 1))) 0 (by omega) ?_
    · intro t a ht ht0 ih3
      have hlt := low_lt (s := t) ht ht0
      have htm : t &&& (t - 1) ≤ t - 1 := Nat.and_le_right
      refine wp_go (f' := ((if (nI t) = 0 then 101 else 68), [.ref 24, .int (nI 1), .int (nI (2 ^ n - 1)), .int (nI (k + 1)), .int (nI ((k + 1) &&& ((k + 1) - 1))), .long a, .retAddr 0, .int (nI t)], [], MW A (upB B 25 f) F true, 0, 0)) 2 rfl ?_
      refine wp_ite (fun h9 => absurd h9 (fun h8 => ht0 ((nI_eq (a := t) (b := 0) (by omega) (by omega)).mp h8))) (fun _ => ?_)
      refine wp_go (f' := (82, [.ref 24, .int (nI 1), .int (nI (2 ^ n - 1)), .int (nI (k + 1)), .int (nI ((k + 1) &&& ((k + 1) - 1))), .long a, .retAddr 0, .int (nI t)], [.int ((nI t) &&& (-(nI t))), .int (nI ((k + 1) &&& ((k + 1) - 1))), .ref 26, .long a], MW A (upB B 25 f) F true, 0, 0)) 8 rfl ?_
      rw [bx_low (by omega) (by omega)]
      have hb1 : 2 ^ low t < 1024 := by first | omega | exact or_lt (by omega) (by omega) | exact and_lt (by omega) | exact and_lt_r (by omega) | exact sd_lt (by omega) | exact pow_lt (by omega)
      refine wp_go (f' := (85, [.ref 24, .int (nI 1), .int (nI (2 ^ n - 1)), .int (nI (k + 1)), .int (nI ((k + 1) &&& ((k + 1) - 1))), .long a, .retAddr 0, .int (nI t)], [.int ((nI ((k + 1) &&& ((k + 1) - 1))) &&& ((nI (2 ^ low t)) ^^^ (-1))), .ref 26, .long a], MW A (upB B 25 f) F true, 0, 0)) 3 rfl ?_
      rw [bx_sd (by omega)]
      have hb2 : sd ((k + 1) &&& ((k + 1) - 1)) (2 ^ low t) < 1024 := by first | omega | exact or_lt (by omega) (by omega) | exact and_lt (by omega) | exact and_lt_r (by omega) | exact sd_lt (by omega) | exact pow_lt (by omega)
      refine wp_lald rfl rfl (by omega) (by decide) ?_
      refine wp_eq (f' := (86, [.ref 24, .int (nI 1), .int (nI (2 ^ n - 1)), .int (nI (k + 1)), .int (nI ((k + 1) &&& ((k + 1) - 1))), .long a, .retAddr 0, .int (nI t)], [.long (f (sd ((k + 1) &&& ((k + 1) - 1)) (2 ^ low t))), .long a], MW A (upB B 25 f) F true, 0, 0)) rfl ?_
      refine wp_go (f' := (95, [.ref 24, .int (nI 1), .int (nI (2 ^ n - 1)), .int (nI (k + 1)), .int (nI ((k + 1) &&& ((k + 1) - 1))), .long (a + (f (sd ((k + 1) &&& ((k + 1) - 1)) (2 ^ low t)))), .retAddr 0, .int (nI t)], [.int ((nI t) - (nI 1)), .int (nI t)], MW A (upB B 25 f) F true, 0, 0)) 6 rfl ?_
      rw [pk_sub (by omega)]
      refine wp_go (f' := (96, [.ref 24, .int (nI 1), .int (nI (2 ^ n - 1)), .int (nI (k + 1)), .int (nI ((k + 1) &&& ((k + 1) - 1))), .long (a + (f (sd ((k + 1) &&& ((k + 1) - 1)) (2 ^ low t)))), .retAddr 0, .int (nI t)], [.int ((nI t) &&& (nI (t - 1)))], MW A (upB B 25 f) F true, 0, 0)) 1 rfl ?_
      rw [bx_and]
      have hb3 : t &&& (t - 1) < 1024 := by first | omega | exact or_lt (by omega) (by omega) | exact and_lt (by omega) | exact and_lt_r (by omega) | exact sd_lt (by omega) | exact pow_lt (by omega)
      refine wp_go (f' := (63, [.ref 24, .int (nI 1), .int (nI (2 ^ n - 1)), .int (nI (k + 1)), .int (nI ((k + 1) &&& ((k + 1) - 1))), .long (a + (f (sd ((k + 1) &&& ((k + 1) - 1)) (2 ^ low t)))), .retAddr 0, .int (nI (t &&& (t - 1)))], [], MW A (upB B 25 f) F true, 0, 0)) 2 rfl ?_
      refine wp_eq ?_ (ih3)
      first | rfl | simp []
    · skip
      refine wp_go (f' := ((if (nI 0) = 0 then 101 else 68), [.ref 24, .int (nI 1), .int (nI (2 ^ n - 1)), .int (nI (k + 1)), .int (nI ((k + 1) &&& ((k + 1) - 1))), .long (matC nb true f (k + 1)), .retAddr 0, .int (nI 0)], [], MW A (upB B 25 f) F true, 0, 0)) 2 rfl ?_
      refine wp_ite (fun _ => ?_) (fun h9 => absurd rfl h9)
      refine wp_go (f' := (108, [.ref 24, .int (nI 1), .int (nI (2 ^ n - 1)), .int (nI (k + 1)), .int (nI ((k + 1) &&& ((k + 1) - 1))), .long (matC nb true f (k + 1)), .retAddr 0, .int (nI 0)], [.long (matC nb true f (k + 1)), .int (nI (k + 1)), .ref 26], MW A (upB B 25 f) F true, 0, 0)) 4 rfl ?_
      refine wp_last rfl rfl (by omega) (by decide) ?_
      refine wp_eq (f' := (109, [.ref 24, .int (nI 1), .int (nI (2 ^ n - 1)), .int (nI (k + 1)), .int (nI ((k + 1) &&& ((k + 1) - 1))), .long (matC nb true f (k + 1)), .retAddr 0, .int (nI 0)], [], MW A (upB B 25 (vp_updL f (k + 1) (matC nb true f (k + 1)))) F true, 0, 0)) rfl ?_
      refine wp_go (f' := (112, [.ref 24, .int (nI 1), .int (nI (2 ^ n - 1)), .int ((nI (k + 1)) + 1), .int (nI ((k + 1) &&& ((k + 1) - 1))), .long (matC nb true f (k + 1)), .retAddr 0, .int (nI 0)], [], MW A (upB B 25 (vp_updL f (k + 1) (matC nb true f (k + 1)))) F true, 0, 0)) 1 rfl ?_
      rw [nI_1]
      refine wp_go (f' := (17, [.ref 24, .int (nI 1), .int (nI (2 ^ n - 1)), .int (nI ((k + 1) + 1)), .int (nI ((k + 1) &&& ((k + 1) - 1))), .long (matC nb true f (k + 1)), .retAddr 0, .int (nI 0)], [], MW A (upB B 25 (vp_updL f (k + 1) (matC nb true f (k + 1)))) F true, 0, 0)) 1 rfl ?_
      exact ih (.int (nI ((k + 1) &&& ((k + 1) - 1)))) (.long (matC nb true f (k + 1))) (.retAddr 0) (.int (nI 0))
  · intro e4 e5 e6 e7
    refine wp_go (f' := ((if (nI (2 ^ n - 1)) < (nI (2 ^ n - 1 + 1)) then 115 else 22), [.ref 24, .int (nI 1), .int (nI (2 ^ n - 1)), .int (nI (2 ^ n - 1 + 1)), e4, e5, e6, e7], [], MW A (upB B 25 (tabN (matC nb true) n (vp_updL (B 25) 0 1))) F true, 0, 0)) 3 rfl ?_
    refine wp_ite (fun _ => ?_) (fun h9 => absurd (nI_lt (by omega) (by omega)) h9)
    refine wp_go (f' := (120, [.ref 24, .int (nI 1), .int (nI (2 ^ n - 1)), .int (nI (2 ^ n - 1 + 1)), e4, e5, e6, e7], [.int (nI (2 ^ n - 1)), .ref 26], MW A (upB B 25 (tabN (matC nb true) n (vp_updL (B 25) 0 1))) F true, 0, 0)) 3 rfl ?_
    refine wp_lald rfl rfl (by omega) (by decide) ?_
    refine wp_eq (f' := (121, [.ref 24, .int (nI 1), .int (nI (2 ^ n - 1)), .int (nI (2 ^ n - 1 + 1)), e4, e5, e6, e7], [.long ((tabN (matC nb true) n (vp_updL (B 25) 0 1)) (2 ^ n - 1))], MW A (upB B 25 (tabN (matC nb true) n (vp_updL (B 25) 0 1))) F true, 0, 0)) rfl ?_
    exact wp_lret rfl
theorem ev_cMat1 (hC : CI A F n nb) (hR : RI A n nb) : mv_Ev xs Ls 4 63 [.ref 24, .int (nI 1)] (MW A B F sw) (some (.long ((tabN (matC nb true) n (vp_updL (B 25) 0 1)) (2 ^ n - 1))), MW A (upB B 25 (tabN (matC nb true) n (vp_updL (B 25) 0 1))) F sw, 0, 0) := by
  cases sw
  · exact ev_cMat1_f hC hR
  · exact ev_cMat1_t hC hR
end CC
