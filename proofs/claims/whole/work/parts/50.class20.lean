/-! colourings of the class: one whole class after the other -/
def subAF {α : Type} (f : Nat → α → α) (s : Nat) : Nat → Nat → α → α
  | 0, _, a => a
  | k + 1, t, a => if t = 0 then a else subAF f s k ((t - 1) &&& s) (f t a)
def subA {α : Type} (f : Nat → α → α) (s t : Nat) (a : α) : α := subAF f s 1024 t a
theorem subAF_fuel {α : Type} {f : Nat → α → α} {s : Nat} : ∀ (k m t : Nat) (a : α), t ≤ k → t ≤ m → subAF f s k t a = subAF f s m t a
  | 0, 0, t, a, h1, h2 => rfl
  | 0, m + 1, t, a, h1, h2 => by have : t = 0 := by omega
                                 subst this; simp [subAF]
  | k + 1, 0, t, a, h1, h2 => by have : t = 0 := by omega
                                 subst this; simp [subAF]
  | k + 1, m + 1, t, a, h1, h2 => by
    simp only [subAF]
    by_cases h : t = 0
    · rw [if_pos h, if_pos h]
    · rw [if_neg h, if_neg h]
      have : (t - 1) &&& s ≤ t - 1 := Nat.and_le_left
      exact subAF_fuel k m _ _ (by omega) (by omega)
theorem subA_0 {α : Type} (f : Nat → α → α) (s : Nat) (a : α) : subA f s 0 a = a := by
  unfold subA
  rw [show (1024 : Nat) = 1023 + 1 from rfl]
  exact if_pos rfl
theorem subAF_succ {α : Type} (f : Nat → α → α) (s k t : Nat) (a : α) : subAF f s (k + 1) t a = if t = 0 then a else subAF f s k ((t - 1) &&& s) (f t a) := rfl
theorem subA_s {α : Type} {f : Nat → α → α} {s t : Nat} {a : α} (ht : t < 1024) (h0 : ¬ t = 0) : subA f s t a = subA f s ((t - 1) &&& s) (f t a) := by
  have : (t - 1) &&& s ≤ t - 1 := Nat.and_le_left
  unfold subA
  rw [show (1024 : Nat) = 1023 + 1 from rfl, subAF_succ, if_neg h0]
  exact subAF_fuel 1023 1024 _ _ (by omega) (by omega)
theorem subA_ind {α : Type} {P : Nat → α → Prop} {f : Nat → α → α} {s : Nat} (hs : ∀ t a, t < 1024 → ¬ t = 0 → P ((t - 1) &&& s) (f t a) → P t a) : ∀ (t : Nat) (a : α), t < 1024 → P 0 (subA f s t a) → P t a := by
  refine wh_ind (P := fun t => ∀ a, t < 1024 → P 0 (subA f s t a) → P t a) (fun t => t) (fun t ih a ht h => ?_)
  by_cases h0 : t = 0
  · subst h0; rw [subA_0] at h; exact h
  · have h2 : (t - 1) &&& s ≤ t - 1 := Nat.and_le_left
    rw [subA_s ht h0] at h
    exact hs t a ht h0 (ih _ (by omega) _ (by omega) h)
/-- one class with the lowest of s taken away: ways more at what is left -/
def takS (nb : Nat → Nat) (r : Nat) (ways : Int64) : Nat → (Nat → Int64) → (Nat → Int64) := fun t f => if inN nb t = 0 then vp_updL f (sd r t) (f (sd r t) + ways) else f
def frN (nb : Nat → Nat) (s : Nat) : Nat := sd (s &&& (s - 1)) (nb (low s))
def takN (nb : Nat → Nat) (s : Nat) (ways : Int64) (f : Nat → Int64) : Nat → Int64 := takS nb (s &&& (s - 1)) ways 0 (subA (takS nb (s &&& (s - 1)) ways) (frN nb s) (frN nb s) f)
def colS (nb : Nat → Nat) (c : Int64) : Nat → ((Nat → Int64) × (Nat → Int64)) → ((Nat → Int64) × (Nat → Int64)) := fun k q => if q.1 (k + 1) = 0 then q else (vp_updL q.1 (k + 1) 0, takN nb (k + 1) (q.1 (k + 1) * c) q.2)
def colC (n : Nat) (nb : Nat → Nat) (c : Int64) (q : (Nat → Int64) × (Nat → Int64)) : (Nat → Int64) × (Nat → Int64) := forN (colS nb c) (2 ^ n - 1) (vp_updL q.1 0 0, q.2)
def clrN (n : Nat) (q : (Nat → Int64) × (Nat → Int64)) : (Nat → Int64) × (Nat → Int64) := forN (fun k q => (vp_updL q.1 k 0, vp_updL q.2 k 0)) (2 ^ n) q
/-- the rows, what is found, and whether the rows lie the other way round -/
def colR (n : Nat) (nb : Nat → Nat) (x : Int32) : Nat → (((Nat → Int64) × (Nat → Int64)) × Int64 × Bool) → (((Nat → Int64) × (Nat → Int64)) × Int64 × Bool) := fun k q => (((colC n nb (x - nI k).toInt64 q.1).2, (colC n nb (x - nI k).toInt64 q.1).1), q.2.1 + (colC n nb (x - nI k).toInt64 q.1).2 0, !q.2.2)
def col0 (n : Nat) (q : (Nat → Int64) × (Nat → Int64)) : (Nat → Int64) × (Nat → Int64) := (vp_updL (clrN n q).1 (2 ^ n - 1) 1, (clrN n q).2)
def colN (n : Nat) (nb : Nat → Nat) (x : Int32) (q : (Nat → Int64) × (Nat → Int64)) (sw : Bool) : ((Nat → Int64) × (Nat → Int64)) × Int64 × Bool := forN (colR n nb x) n (col0 n q, (col0 n q).1 0, sw)
section CC
variable {xs : Nat → Int32} {Ls : Nat} {A : Nat → Nat → Int32} {B : Nat → Nat → Int64} {F : Nat → Int32} {sw : Bool} {n : Nat} {nb : Nat → Nat}
theorem ev_cClear_f (hC : CI A F n nb) : mv_Ev xs Ls 2 60 [.ref 24] (MW A B F false) (none, MW A (upB (upB B 25 (clrN n (B 25, B 26)).1) 26 (clrN n (B 25, B 26)).2) F false, 0, 0) := by
  refine ev_of_wp rfl rfl rfl ?_
  have hn := hC.1
  have hp := pow10 hn
  have hp1 : 1 ≤ 2 ^ n := Nat.one_le_two_pow
  have hal := all_lt hn
  refine wp_go (f' := (4, [.ref 24, .retAddr 0, .retAddr 0], [.ref 1], MW A B F false, 0, 0)) 2 rfl ?_
  refine wp_call rfl rfl rfl (ev_up (ev_gAll hC) (by decide)) ?_
  refine wp_eq (f' := (7, [.ref 24, .retAddr 0, .retAddr 0], [.int (nI (2 ^ n - 1))], MW A B F false, 0, 0)) rfl ?_
  refine wp_go (f' := (10, [.ref 24, .int (nI (2 ^ n - 1)), .int (nI 0)], [], MW A B F false, 0, 0)) 3 rfl ?_
  refine wp_eq (f' := (10, [.ref 24, .int (nI (2 ^ n - 1)), .int (nI 0)], [], MW A (upB (upB B 25 (B 25)) 26 (B 26)) F false, 0, 0)) rfl ?_
  refine for_ind (P := fun (k : Nat) (q : (Nat → Int64) × (Nat → Int64)) => mv_Wp xs Ls 1 0 false none mv_c60 (10, [.ref 24, .int (nI (2 ^ n - 1)), .int (nI k)], [], MW A (upB (upB B 25 q.1) 26 q.2) F false, 0, 0) (none, MW A (upB (upB B 25 (clrN n (B 25, B 26)).1) 26 (clrN n (B 25, B 26)).2) F false, 0, 0)) (f := fun k q => (vp_updL q.1 k 0, vp_updL q.2 k 0)) (n := 2 ^ n) ?_ (2 ^ n) (B 25, B 26) (Nat.le_refl _) ?_
  · intro k q hk ih
    refine wp_go (f' := ((if (nI (2 ^ n - 1)) < (nI k) then 35 else 15), [.ref 24, .int (nI (2 ^ n - 1)), .int (nI k)], [], MW A (upB (upB B 25 q.1) 26 q.2) F false, 0, 0)) 3 rfl ?_
    refine wp_ite (fun h9 => absurd h9 (nI_nlt (by omega) (by omega))) (fun _ => ?_)
    refine wp_go (f' := (21, [.ref 24, .int (nI (2 ^ n - 1)), .int (nI k)], [.long 0, .int (nI k), .ref 25], MW A (upB (upB B 25 q.1) 26 q.2) F false, 0, 0)) 4 rfl ?_
    refine wp_last rfl rfl (by omega) (by decide) ?_
    refine wp_eq (f' := (22, [.ref 24, .int (nI (2 ^ n - 1)), .int (nI k)], [], MW A (upB (upB B 26 q.2) 25 (vp_updL q.1 k 0)) F false, 0, 0)) rfl ?_
    refine wp_go (f' := (28, [.ref 24, .int (nI (2 ^ n - 1)), .int (nI k)], [.long 0, .int (nI k), .ref 26], MW A (upB (upB B 26 q.2) 25 (vp_updL q.1 k 0)) F false, 0, 0)) 4 rfl ?_
    refine wp_last rfl rfl (by omega) (by decide) ?_
    refine wp_eq (f' := (29, [.ref 24, .int (nI (2 ^ n - 1)), .int (nI k)], [], MW A (upB (upB B 25 (vp_updL q.1 k 0)) 26 (vp_updL q.2 k 0)) F false, 0, 0)) rfl ?_
    refine wp_go (f' := (32, [.ref 24, .int (nI (2 ^ n - 1)), .int ((nI k) + 1)], [], MW A (upB (upB B 25 (vp_updL q.1 k 0)) 26 (vp_updL q.2 k 0)) F false, 0, 0)) 1 rfl ?_
    rw [nI_1]
    refine wp_go (f' := (10, [.ref 24, .int (nI (2 ^ n - 1)), .int (nI (k + 1))], [], MW A (upB (upB B 25 (vp_updL q.1 k 0)) 26 (vp_updL q.2 k 0)) F false, 0, 0)) 1 rfl ?_
    exact ih
  · skip
    refine wp_go (f' := ((if (nI (2 ^ n - 1)) < (nI (2 ^ n)) then 35 else 15), [.ref 24, .int (nI (2 ^ n - 1)), .int (nI (2 ^ n))], [], MW A (upB (upB B 25 (clrN n (B 25, B 26)).1) 26 (clrN n (B 25, B 26)).2) F false, 0, 0)) 3 rfl ?_
    refine wp_ite (fun _ => ?_) (fun h9 => absurd (nI_lt (by omega) (by omega)) h9)
    exact wp_vret rfl
theorem ev_cClear_t (hC : CI A F n nb) : mv_Ev xs Ls 2 60 [.ref 24] (MW A B F true) (none, MW A (upB (upB B 25 (clrN n (B 25, B 26)).1) 26 (clrN n (B 25, B 26)).2) F true, 0, 0) := by
  refine ev_of_wp rfl rfl rfl ?_
  have hn := hC.1
  have hp := pow10 hn
  have hp1 : 1 ≤ 2 ^ n := Nat.one_le_two_pow
  have hal := all_lt hn
  refine wp_go (f' := (4, [.ref 24, .retAddr 0, .retAddr 0], [.ref 1], MW A B F true, 0, 0)) 2 rfl ?_
  refine wp_call rfl rfl rfl (ev_up (ev_gAll hC) (by decide)) ?_
  refine wp_eq (f' := (7, [.ref 24, .retAddr 0, .retAddr 0], [.int (nI (2 ^ n - 1))], MW A B F true, 0, 0)) rfl ?_
  refine wp_go (f' := (10, [.ref 24, .int (nI (2 ^ n - 1)), .int (nI 0)], [], MW A B F true, 0, 0)) 3 rfl ?_
  refine wp_eq (f' := (10, [.ref 24, .int (nI (2 ^ n - 1)), .int (nI 0)], [], MW A (upB (upB B 25 (B 25)) 26 (B 26)) F true, 0, 0)) rfl ?_
  refine for_ind (P := fun (k : Nat) (q : (Nat → Int64) × (Nat → Int64)) => mv_Wp xs Ls 1 0 false none mv_c60 (10, [.ref 24, .int (nI (2 ^ n - 1)), .int (nI k)], [], MW A (upB (upB B 25 q.1) 26 q.2) F true, 0, 0) (none, MW A (upB (upB B 25 (clrN n (B 25, B 26)).1) 26 (clrN n (B 25, B 26)).2) F true, 0, 0)) (f := fun k q => (vp_updL q.1 k 0, vp_updL q.2 k 0)) (n := 2 ^ n) ?_ (2 ^ n) (B 25, B 26) (Nat.le_refl _) ?_
  · intro k q hk ih
    refine wp_go (f' := ((if (nI (2 ^ n - 1)) < (nI k) then 35 else 15), [.ref 24, .int (nI (2 ^ n - 1)), .int (nI k)], [], MW A (upB (upB B 25 q.1) 26 q.2) F true, 0, 0)) 3 rfl ?_
    refine wp_ite (fun h9 => absurd h9 (nI_nlt (by omega) (by omega))) (fun _ => ?_)
    refine wp_go (f' := (21, [.ref 24, .int (nI (2 ^ n - 1)), .int (nI k)], [.long 0, .int (nI k), .ref 26], MW A (upB (upB B 25 q.1) 26 q.2) F true, 0, 0)) 4 rfl ?_
    refine wp_last rfl rfl (by omega) (by decide) ?_
    refine wp_eq (f' := (22, [.ref 24, .int (nI (2 ^ n - 1)), .int (nI k)], [], MW A (upB (upB B 26 q.2) 25 (vp_updL q.1 k 0)) F true, 0, 0)) rfl ?_
    refine wp_go (f' := (28, [.ref 24, .int (nI (2 ^ n - 1)), .int (nI k)], [.long 0, .int (nI k), .ref 25], MW A (upB (upB B 26 q.2) 25 (vp_updL q.1 k 0)) F true, 0, 0)) 4 rfl ?_
    refine wp_last rfl rfl (by omega) (by decide) ?_
    refine wp_eq (f' := (29, [.ref 24, .int (nI (2 ^ n - 1)), .int (nI k)], [], MW A (upB (upB B 25 (vp_updL q.1 k 0)) 26 (vp_updL q.2 k 0)) F true, 0, 0)) rfl ?_
    refine wp_go (f' := (32, [.ref 24, .int (nI (2 ^ n - 1)), .int ((nI k) + 1)], [], MW A (upB (upB B 25 (vp_updL q.1 k 0)) 26 (vp_updL q.2 k 0)) F true, 0, 0)) 1 rfl ?_
    rw [nI_1]
    refine wp_go (f' := (10, [.ref 24, .int (nI (2 ^ n - 1)), .int (nI (k + 1))], [], MW A (upB (upB B 25 (vp_updL q.1 k 0)) 26 (vp_updL q.2 k 0)) F true, 0, 0)) 1 rfl ?_
    exact ih
  · skip
    refine wp_go (f' := ((if (nI (2 ^ n - 1)) < (nI (2 ^ n)) then 35 else 15), [.ref 24, .int (nI (2 ^ n - 1)), .int (nI (2 ^ n))], [], MW A (upB (upB B 25 (clrN n (B 25, B 26)).1) 26 (clrN n (B 25, B 26)).2) F true, 0, 0)) 3 rfl ?_
    refine wp_ite (fun _ => ?_) (fun h9 => absurd (nI_lt (by omega) (by omega)) h9)
    exact wp_vret rfl
theorem ev_cClear (hC : CI A F n nb) : mv_Ev xs Ls 2 60 [.ref 24] (MW A B F sw) (none, MW A (upB (upB B 25 (clrN n (B 25, B 26)).1) 26 (clrN n (B 25, B 26)).2) F sw, 0, 0) := by
  cases sw
  · exact ev_cClear_f hC
  · exact ev_cClear_t hC
theorem ev_cTake_f (hC : CI A F n nb) (hR : RI A n nb) {s : Nat} (hs : s < 2 ^ n) (hs0 : ¬ s = 0) (ways : Int64) : mv_Ev xs Ls 3 62 [.ref 24, .int (nI s), .long ways] (MW A B F false) (none, MW A (upB B 26 (takN nb s ways (B 26))) F false, 0, 0) := by
  refine ev_of_wp rfl rfl rfl ?_
  have hn := hC.1
  have hp := pow10 hn
  have hp1 : 1 ≤ 2 ^ n := Nat.one_le_two_pow
  have hal := all_lt hn
  have hrl : s &&& (s - 1) ≤ s - 1 := Nat.and_le_right
  have hfl : frN nb s ≤ s &&& (s - 1) := sd_le
  refine wp_go (f' := (4, [.ref 24, .int (nI s), .long ways, .retAddr 0, .retAddr 0, .retAddr 0, .retAddr 0], [.int ((nI s) - (nI 1)), .int (nI s)], MW A B F false, 0, 0)) 4 rfl ?_
  rw [pk_sub (by omega)]
  refine wp_go (f' := (5, [.ref 24, .int (nI s), .long ways, .retAddr 0, .retAddr 0, .retAddr 0, .retAddr 0], [.int ((nI s) &&& (nI (s - 1)))], MW A B F false, 0, 0)) 1 rfl ?_
  rw [bx_and]
  have hb1 : s &&& (s - 1) < 1024 := by first | omega | exact or_lt (by omega) (by omega) | exact and_lt (by omega) | exact and_lt_r (by omega) | exact sd_lt (by omega) | exact pow_lt (by omega)
  refine wp_go (f' := (17, [.ref 24, .int (nI s), .long ways, .retAddr 0, .int (nI (s &&& (s - 1))), .retAddr 0, .retAddr 0], [.int (nI s), .ref 2, .int (nI (s &&& (s - 1)))], MW A B F false, 0, 0)) 6 rfl ?_
  refine wp_call rfl rfl rfl (ev_up (ev_low (s := s) (by omega) (by omega) _) (by decide)) ?_
  refine wp_eq (f' := (20, [.ref 24, .int (nI s), .long ways, .retAddr 0, .int (nI (s &&& (s - 1))), .retAddr 0, .retAddr 0], [.int (nI (low s)), .ref 2, .int (nI (s &&& (s - 1)))], MW A B F false, 0, 0)) rfl ?_
  have hlw := low_lt (s := s) (by omega) (by omega)
  refine wp_iald rfl rfl (by omega) (by decide) ?_
  rw [hC.2.2.1 (low s) (by omega)]
  have hnb := hC.2.2.2 (low s) (by omega)
  refine wp_go (f' := (24, [.ref 24, .int (nI s), .long ways, .retAddr 0, .int (nI (s &&& (s - 1))), .retAddr 0, .retAddr 0], [.int ((nI (s &&& (s - 1))) &&& ((nI (nb (low s))) ^^^ (-1)))], MW A B F false, 0, 0)) 3 rfl ?_
  rw [bx_sd (by omega)]
  have hb2 : sd (s &&& (s - 1)) (nb (low s)) < 1024 := by first | omega | exact or_lt (by omega) (by omega) | exact and_lt (by omega) | exact and_lt_r (by omega) | exact sd_lt (by omega) | exact pow_lt (by omega)
  refine wp_go (f' := (30, [.ref 24, .int (nI s), .long ways, .retAddr 0, .int (nI (s &&& (s - 1))), .int (nI (sd (s &&& (s - 1)) (nb (low s)))), .int (nI (sd (s &&& (s - 1)) (nb (low s))))], [], MW A B F false, 0, 0)) 3 rfl ?_
  refine wp_eq (f' := (30, [.ref 24, .int (nI s), .long ways, .retAddr 0, .int (nI (s &&& (s - 1))), .int (nI (frN nb s)), .int (nI (frN nb s))], [], MW A (upB B 26 (B 26)) F false, 0, 0)) rfl ?_
  refine subA_ind (P := fun (t : Nat) (f : Nat → Int64) => t ≤ s → mv_Wp xs Ls 2 0 false none mv_c62 (30, [.ref 24, .int (nI s), .long ways, .retAddr 0, .int (nI (s &&& (s - 1))), .int (nI (frN nb s)), .int (nI t)], [], MW A (upB B 26 f) F false, 0, 0) (none, MW A (upB B 26 (takN nb s ways (B 26))) F false, 0, 0)) (f := takS nb (s &&& (s - 1)) ways) (s := frN nb s) ?_ (frN nb s) (B 26) (by omega) ?_ (by omega)
  · intro t f ht ht0 ih3 hin
    have htm : (t - 1) &&& frN nb s ≤ t - 1 := Nat.and_le_left
    have hil := in_le (nb := nb) t (by omega)
    have hsd := sd_le (a := (s &&& (s - 1))) (b := t)
    refine wp_go (f' := ((if (nI t) < 0 then 85 else 35), [.ref 24, .int (nI s), .long ways, .retAddr 0, .int (nI (s &&& (s - 1))), .int (nI (frN nb s)), .int (nI t)], [], MW A (upB B 26 f) F false, 0, 0)) 2 rfl ?_
    refine wp_ite (fun h9 => absurd h9 (ne_m1 ht)) (fun _ => ?_)
    refine wp_go (f' := (44, [.ref 24, .int (nI s), .long ways, .retAddr 0, .int (nI (s &&& (s - 1))), .int (nI (frN nb s)), .int (nI t)], [.int (nI t), .ref 5], MW A (upB B 26 f) F false, 0, 0)) 4 rfl ?_
    refine wp_iald rfl rfl (by omega) (by decide) ?_
    refine wp_eq (f' := (45, [.ref 24, .int (nI s), .long ways, .retAddr 0, .int (nI (s &&& (s - 1))), .int (nI (frN nb s)), .int (nI t)], [.int ((A 5) t)], MW A (upB B 26 f) F false, 0, 0)) rfl ?_
    rw [(hR t (by omega)).2.1]
    refine wp_go (f' := ((if ¬ (nI (inN nb t)) = 0 then 64 else 48), [.ref 24, .int (nI s), .long ways, .retAddr 0, .int (nI (s &&& (s - 1))), .int (nI (frN nb s)), .int (nI t)], [], MW A (upB B 26 f) F false, 0, 0)) 1 rfl ?_
    refine wp_ite (fun h1 => ?_) (fun h1 => ?_)
    · have h1 : ¬ (inN nb t = 0) := fun h9 => h1 ((nI_eq (a := inN nb t) (b := 0) (by omega) (by omega)).mpr h9)
      refine wp_go (f' := ((if ¬ (nI t) = 0 then 73 else 69), [.ref 24, .int (nI s), .long ways, .retAddr 0, .int (nI (s &&& (s - 1))), .int (nI (frN nb s)), .int (nI t)], [], MW A (upB B 26 f) F false, 0, 0)) 2 rfl ?_
      refine wp_ite (fun _ => ?_) (fun h9 => absurd (fun h8 => ht0 ((nI_eq (a := t) (b := 0) (by omega) (by omega)).mp h8)) h9)
      refine wp_go (f' := (77, [.ref 24, .int (nI s), .long ways, .retAddr 0, .int (nI (s &&& (s - 1))), .int (nI (frN nb s)), .int (nI t)], [.int ((nI t) - (nI 1))], MW A (upB B 26 f) F false, 0, 0)) 3 rfl ?_
      rw [pk_sub (by omega)]
      refine wp_go (f' := (80, [.ref 24, .int (nI s), .long ways, .retAddr 0, .int (nI (s &&& (s - 1))), .int (nI (frN nb s)), .int (nI t)], [.int ((nI (t - 1)) &&& (nI (frN nb s)))], MW A (upB B 26 f) F false, 0, 0)) 2 rfl ?_
      rw [bx_and]
      refine wp_go (f' := (30, [.ref 24, .int (nI s), .long ways, .retAddr 0, .int (nI (s &&& (s - 1))), .int (nI (frN nb s)), .int (nI ((t - 1) &&& (frN nb s)))], [], MW A (upB B 26 f) F false, 0, 0)) 2 rfl ?_
      have hL : takS nb (s &&& (s - 1)) ways t f = f := by
        unfold takS; rw [if_neg h1]
      rw [hL] at ih3
      exact ih3 (by omega)
    · have h1 := Classical.not_not.mp h1; have h1 : inN nb t = 0 := (nI_eq (a := inN nb t) (b := 0) (by omega) (by omega)).mp h1
      refine wp_go (f' := (59, [.ref 24, .int (nI s), .long ways, .retAddr 0, .int (nI (s &&& (s - 1))), .int (nI (frN nb s)), .int (nI t)], [.int ((nI (s &&& (s - 1))) &&& ((nI t) ^^^ (-1))), .ref 26], MW A (upB B 26 f) F false, 0, 0)) 7 rfl ?_
      rw [bx_sd (by omega)]
      refine wp_go (f' := (60, [.ref 24, .int (nI s), .long ways, .retAddr 0, .int (nI (s &&& (s - 1))), .int (nI (frN nb s)), .int (nI t)], [.int (nI (sd (s &&& (s - 1)) t)), .ref 26, .int (nI (sd (s &&& (s - 1)) t)), .ref 26], MW A (upB B 26 f) F false, 0, 0)) 1 rfl ?_
      refine wp_lald rfl rfl (by omega) (by decide) ?_
      refine wp_eq (f' := (61, [.ref 24, .int (nI s), .long ways, .retAddr 0, .int (nI (s &&& (s - 1))), .int (nI (frN nb s)), .int (nI t)], [.long (f (sd (s &&& (s - 1)) t)), .int (nI (sd (s &&& (s - 1)) t)), .ref 26], MW A (upB B 26 f) F false, 0, 0)) rfl ?_
      refine wp_go (f' := (63, [.ref 24, .int (nI s), .long ways, .retAddr 0, .int (nI (s &&& (s - 1))), .int (nI (frN nb s)), .int (nI t)], [.long ((f (sd (s &&& (s - 1)) t)) + ways), .int (nI (sd (s &&& (s - 1)) t)), .ref 26], MW A (upB B 26 f) F false, 0, 0)) 2 rfl ?_
      refine wp_last rfl rfl (by omega) (by decide) ?_
      refine wp_eq (f' := (64, [.ref 24, .int (nI s), .long ways, .retAddr 0, .int (nI (s &&& (s - 1))), .int (nI (frN nb s)), .int (nI t)], [], MW A (upB B 26 (vp_updL f (sd (s &&& (s - 1)) t) ((f (sd (s &&& (s - 1)) t)) + ways))) F false, 0, 0)) rfl ?_
      refine wp_go (f' := ((if ¬ (nI t) = 0 then 73 else 69), [.ref 24, .int (nI s), .long ways, .retAddr 0, .int (nI (s &&& (s - 1))), .int (nI (frN nb s)), .int (nI t)], [], MW A (upB B 26 (vp_updL f (sd (s &&& (s - 1)) t) ((f (sd (s &&& (s - 1)) t)) + ways))) F false, 0, 0)) 2 rfl ?_
      refine wp_ite (fun _ => ?_) (fun h9 => absurd (fun h8 => ht0 ((nI_eq (a := t) (b := 0) (by omega) (by omega)).mp h8)) h9)
      refine wp_go (f' := (77, [.ref 24, .int (nI s), .long ways, .retAddr 0, .int (nI (s &&& (s - 1))), .int (nI (frN nb s)), .int (nI t)], [.int ((nI t) - (nI 1))], MW A (upB B 26 (vp_updL f (sd (s &&& (s - 1)) t) ((f (sd (s &&& (s - 1)) t)) + ways))) F false, 0, 0)) 3 rfl ?_
      rw [pk_sub (by omega)]
      refine wp_go (f' := (80, [.ref 24, .int (nI s), .long ways, .retAddr 0, .int (nI (s &&& (s - 1))), .int (nI (frN nb s)), .int (nI t)], [.int ((nI (t - 1)) &&& (nI (frN nb s)))], MW A (upB B 26 (vp_updL f (sd (s &&& (s - 1)) t) ((f (sd (s &&& (s - 1)) t)) + ways))) F false, 0, 0)) 2 rfl ?_
      rw [bx_and]
      refine wp_go (f' := (30, [.ref 24, .int (nI s), .long ways, .retAddr 0, .int (nI (s &&& (s - 1))), .int (nI (frN nb s)), .int (nI ((t - 1) &&& (frN nb s)))], [], MW A (upB B 26 (vp_updL f (sd (s &&& (s - 1)) t) ((f (sd (s &&& (s - 1)) t)) + ways))) F false, 0, 0)) 2 rfl ?_
      have hL : takS nb (s &&& (s - 1)) ways t f = (vp_updL f (sd (s &&& (s - 1)) t) ((f (sd (s &&& (s - 1)) t)) + ways)) := by
        unfold takS; rw [if_pos h1]
      rw [hL] at ih3
      exact ih3 (by omega)
  · intro hin
    have hil := in_le (nb := nb) 0 (by omega)
    have hsd := sd_le (a := (s &&& (s - 1))) (b := 0)
    refine wp_go (f' := ((if (nI 0) < 0 then 85 else 35), [.ref 24, .int (nI s), .long ways, .retAddr 0, .int (nI (s &&& (s - 1))), .int (nI (frN nb s)), .int (nI 0)], [], MW A (upB B 26 (subA (takS nb (s &&& (s - 1)) ways) (frN nb s) (frN nb s) (B 26))) F false, 0, 0)) 2 rfl ?_
    refine wp_ite (fun h9 => absurd h9 (by decide)) (fun _ => ?_)
    refine wp_go (f' := (44, [.ref 24, .int (nI s), .long ways, .retAddr 0, .int (nI (s &&& (s - 1))), .int (nI (frN nb s)), .int (nI 0)], [.int (nI 0), .ref 5], MW A (upB B 26 (subA (takS nb (s &&& (s - 1)) ways) (frN nb s) (frN nb s) (B 26))) F false, 0, 0)) 4 rfl ?_
    refine wp_iald rfl rfl (by omega) (by decide) ?_
    refine wp_eq (f' := (45, [.ref 24, .int (nI s), .long ways, .retAddr 0, .int (nI (s &&& (s - 1))), .int (nI (frN nb s)), .int (nI 0)], [.int ((A 5) 0)], MW A (upB B 26 (subA (takS nb (s &&& (s - 1)) ways) (frN nb s) (frN nb s) (B 26))) F false, 0, 0)) rfl ?_
    rw [(hR 0 (by omega)).2.1]
    refine wp_go (f' := ((if ¬ (nI (inN nb 0)) = 0 then 64 else 48), [.ref 24, .int (nI s), .long ways, .retAddr 0, .int (nI (s &&& (s - 1))), .int (nI (frN nb s)), .int (nI 0)], [], MW A (upB B 26 (subA (takS nb (s &&& (s - 1)) ways) (frN nb s) (frN nb s) (B 26))) F false, 0, 0)) 1 rfl ?_
    refine wp_ite (fun h1 => ?_) (fun h1 => ?_)
    · have h1 : ¬ (inN nb 0 = 0) := fun h9 => h1 ((nI_eq (a := inN nb 0) (b := 0) (by omega) (by omega)).mpr h9)
      refine wp_go (f' := ((if ¬ (nI 0) = 0 then 73 else 69), [.ref 24, .int (nI s), .long ways, .retAddr 0, .int (nI (s &&& (s - 1))), .int (nI (frN nb s)), .int (nI 0)], [], MW A (upB B 26 (subA (takS nb (s &&& (s - 1)) ways) (frN nb s) (frN nb s) (B 26))) F false, 0, 0)) 2 rfl ?_
      refine wp_ite (fun h9 => absurd h9 (fun h8 => h8 rfl)) (fun _ => ?_)
      refine wp_go (f' := (30, [.ref 24, .int (nI s), .long ways, .retAddr 0, .int (nI (s &&& (s - 1))), .int (nI (frN nb s)), .int (-1)], [], MW A (upB B 26 (subA (takS nb (s &&& (s - 1)) ways) (frN nb s) (frN nb s) (B 26))) F false, 0, 0)) 4 rfl ?_
      have hL : takS nb (s &&& (s - 1)) ways 0 (subA (takS nb (s &&& (s - 1)) ways) (frN nb s) (frN nb s) (B 26)) = (subA (takS nb (s &&& (s - 1)) ways) (frN nb s) (frN nb s) (B 26)) := by
        unfold takS; rw [if_neg h1]
      rw [← hL]
      refine wp_go (f' := ((if (-1) < 0 then 85 else 35), [.ref 24, .int (nI s), .long ways, .retAddr 0, .int (nI (s &&& (s - 1))), .int (nI (frN nb s)), .int (-1)], [], MW A (upB B 26 (takS nb (s &&& (s - 1)) ways 0 (subA (takS nb (s &&& (s - 1)) ways) (frN nb s) (frN nb s) (B 26)))) F false, 0, 0)) 2 rfl ?_
      refine wp_ite (fun _ => ?_) (fun h9 => absurd (by decide : (-1 : Int32) < 0) h9)
      exact wp_vret rfl
    · have h1 := Classical.not_not.mp h1; have h1 : inN nb 0 = 0 := (nI_eq (a := inN nb 0) (b := 0) (by omega) (by omega)).mp h1
      refine wp_go (f' := (59, [.ref 24, .int (nI s), .long ways, .retAddr 0, .int (nI (s &&& (s - 1))), .int (nI (frN nb s)), .int (nI 0)], [.int ((nI (s &&& (s - 1))) &&& ((nI 0) ^^^ (-1))), .ref 26], MW A (upB B 26 (subA (takS nb (s &&& (s - 1)) ways) (frN nb s) (frN nb s) (B 26))) F false, 0, 0)) 7 rfl ?_
      rw [bx_sd (by omega)]
      refine wp_go (f' := (60, [.ref 24, .int (nI s), .long ways, .retAddr 0, .int (nI (s &&& (s - 1))), .int (nI (frN nb s)), .int (nI 0)], [.int (nI (sd (s &&& (s - 1)) 0)), .ref 26, .int (nI (sd (s &&& (s - 1)) 0)), .ref 26], MW A (upB B 26 (subA (takS nb (s &&& (s - 1)) ways) (frN nb s) (frN nb s) (B 26))) F false, 0, 0)) 1 rfl ?_
      refine wp_lald rfl rfl (by omega) (by decide) ?_
      refine wp_eq (f' := (61, [.ref 24, .int (nI s), .long ways, .retAddr 0, .int (nI (s &&& (s - 1))), .int (nI (frN nb s)), .int (nI 0)], [.long ((subA (takS nb (s &&& (s - 1)) ways) (frN nb s) (frN nb s) (B 26)) (sd (s &&& (s - 1)) 0)), .int (nI (sd (s &&& (s - 1)) 0)), .ref 26], MW A (upB B 26 (subA (takS nb (s &&& (s - 1)) ways) (frN nb s) (frN nb s) (B 26))) F false, 0, 0)) rfl ?_
      refine wp_go (f' := (63, [.ref 24, .int (nI s), .long ways, .retAddr 0, .int (nI (s &&& (s - 1))), .int (nI (frN nb s)), .int (nI 0)], [.long (((subA (takS nb (s &&& (s - 1)) ways) (frN nb s) (frN nb s) (B 26)) (sd (s &&& (s - 1)) 0)) + ways), .int (nI (sd (s &&& (s - 1)) 0)), .ref 26], MW A (upB B 26 (subA (takS nb (s &&& (s - 1)) ways) (frN nb s) (frN nb s) (B 26))) F false, 0, 0)) 2 rfl ?_
      refine wp_last rfl rfl (by omega) (by decide) ?_
      refine wp_eq (f' := (64, [.ref 24, .int (nI s), .long ways, .retAddr 0, .int (nI (s &&& (s - 1))), .int (nI (frN nb s)), .int (nI 0)], [], MW A (upB B 26 (vp_updL (subA (takS nb (s &&& (s - 1)) ways) (frN nb s) (frN nb s) (B 26)) (sd (s &&& (s - 1)) 0) (((subA (takS nb (s &&& (s - 1)) ways) (frN nb s) (frN nb s) (B 26)) (sd (s &&& (s - 1)) 0)) + ways))) F false, 0, 0)) rfl ?_
      refine wp_go (f' := ((if ¬ (nI 0) = 0 then 73 else 69), [.ref 24, .int (nI s), .long ways, .retAddr 0, .int (nI (s &&& (s - 1))), .int (nI (frN nb s)), .int (nI 0)], [], MW A (upB B 26 (vp_updL (subA (takS nb (s &&& (s - 1)) ways) (frN nb s) (frN nb s) (B 26)) (sd (s &&& (s - 1)) 0) (((subA (takS nb (s &&& (s - 1)) ways) (frN nb s) (frN nb s) (B 26)) (sd (s &&& (s - 1)) 0)) + ways))) F false, 0, 0)) 2 rfl ?_
      refine wp_ite (fun h9 => absurd h9 (fun h8 => h8 rfl)) (fun _ => ?_)
      refine wp_go (f' := (30, [.ref 24, .int (nI s), .long ways, .retAddr 0, .int (nI (s &&& (s - 1))), .int (nI (frN nb s)), .int (-1)], [], MW A (upB B 26 (vp_updL (subA (takS nb (s &&& (s - 1)) ways) (frN nb s) (frN nb s) (B 26)) (sd (s &&& (s - 1)) 0) (((subA (takS nb (s &&& (s - 1)) ways) (frN nb s) (frN nb s) (B 26)) (sd (s &&& (s - 1)) 0)) + ways))) F false, 0, 0)) 4 rfl ?_
      have hL : takS nb (s &&& (s - 1)) ways 0 (subA (takS nb (s &&& (s - 1)) ways) (frN nb s) (frN nb s) (B 26)) = (vp_updL (subA (takS nb (s &&& (s - 1)) ways) (frN nb s) (frN nb s) (B 26)) (sd (s &&& (s - 1)) 0) (((subA (takS nb (s &&& (s - 1)) ways) (frN nb s) (frN nb s) (B 26)) (sd (s &&& (s - 1)) 0)) + ways)) := by
        unfold takS; rw [if_pos h1]
      rw [← hL]
      refine wp_go (f' := ((if (-1) < 0 then 85 else 35), [.ref 24, .int (nI s), .long ways, .retAddr 0, .int (nI (s &&& (s - 1))), .int (nI (frN nb s)), .int (-1)], [], MW A (upB B 26 (takS nb (s &&& (s - 1)) ways 0 (subA (takS nb (s &&& (s - 1)) ways) (frN nb s) (frN nb s) (B 26)))) F false, 0, 0)) 2 rfl ?_
      refine wp_ite (fun _ => ?_) (fun h9 => absurd (by decide : (-1 : Int32) < 0) h9)
      exact wp_vret rfl
theorem ev_cTake_t (hC : CI A F n nb) (hR : RI A n nb) {s : Nat} (hs : s < 2 ^ n) (hs0 : ¬ s = 0) (ways : Int64) : mv_Ev xs Ls 3 62 [.ref 24, .int (nI s), .long ways] (MW A B F true) (none, MW A (upB B 26 (takN nb s ways (B 26))) F true, 0, 0) := by
  refine ev_of_wp rfl rfl rfl ?_
  have hn := hC.1
  have hp := pow10 hn
  have hp1 : 1 ≤ 2 ^ n := Nat.one_le_two_pow
  have hal := all_lt hn
  have hrl : s &&& (s - 1) ≤ s - 1 := Nat.and_le_right
  have hfl : frN nb s ≤ s &&& (s - 1) := sd_le
  refine wp_go (f' := (4, [.ref 24, .int (nI s), .long ways, .retAddr 0, .retAddr 0, .retAddr 0, .retAddr 0], [.int ((nI s) - (nI 1)), .int (nI s)], MW A B F true, 0, 0)) 4 rfl ?_
  rw [pk_sub (by omega)]
  refine wp_go (f' := (5, [.ref 24, .int (nI s), .long ways, .retAddr 0, .retAddr 0, .retAddr 0, .retAddr 0], [.int ((nI s) &&& (nI (s - 1)))], MW A B F true, 0, 0)) 1 rfl ?_
  rw [bx_and]
  have hb1 : s &&& (s - 1) < 1024 := by first | omega | exact or_lt (by omega) (by omega) | exact and_lt (by omega) | exact and_lt_r (by omega) | exact sd_lt (by omega) | exact pow_lt (by omega)
  refine wp_go (f' := (17, [.ref 24, .int (nI s), .long ways, .retAddr 0, .int (nI (s &&& (s - 1))), .retAddr 0, .retAddr 0], [.int (nI s), .ref 2, .int (nI (s &&& (s - 1)))], MW A B F true, 0, 0)) 6 rfl ?_
  refine wp_call rfl rfl rfl (ev_up (ev_low (s := s) (by omega) (by omega) _) (by decide)) ?_
  refine wp_eq (f' := (20, [.ref 24, .int (nI s), .long ways, .retAddr 0, .int (nI (s &&& (s - 1))), .retAddr 0, .retAddr 0], [.int (nI (low s)), .ref 2, .int (nI (s &&& (s - 1)))], MW A B F true, 0, 0)) rfl ?_
  have hlw := low_lt (s := s) (by omega) (by omega)
  refine wp_iald rfl rfl (by omega) (by decide) ?_
  rw [hC.2.2.1 (low s) (by omega)]
  have hnb := hC.2.2.2 (low s) (by omega)
  refine wp_go (f' := (24, [.ref 24, .int (nI s), .long ways, .retAddr 0, .int (nI (s &&& (s - 1))), .retAddr 0, .retAddr 0], [.int ((nI (s &&& (s - 1))) &&& ((nI (nb (low s))) ^^^ (-1)))], MW A B F true, 0, 0)) 3 rfl ?_
  rw [bx_sd (by omega)]
  have hb2 : sd (s &&& (s - 1)) (nb (low s)) < 1024 := by first | omega | exact or_lt (by omega) (by omega) | exact and_lt (by omega) | exact and_lt_r (by omega) | exact sd_lt (by omega) | exact pow_lt (by omega)
  refine wp_go (f' := (30, [.ref 24, .int (nI s), .long ways, .retAddr 0, .int (nI (s &&& (s - 1))), .int (nI (sd (s &&& (s - 1)) (nb (low s)))), .int (nI (sd (s &&& (s - 1)) (nb (low s))))], [], MW A B F true, 0, 0)) 3 rfl ?_
  refine wp_eq (f' := (30, [.ref 24, .int (nI s), .long ways, .retAddr 0, .int (nI (s &&& (s - 1))), .int (nI (frN nb s)), .int (nI (frN nb s))], [], MW A (upB B 26 (B 26)) F true, 0, 0)) rfl ?_
  refine subA_ind (P := fun (t : Nat) (f : Nat → Int64) => t ≤ s → mv_Wp xs Ls 2 0 false none mv_c62 (30, [.ref 24, .int (nI s), .long ways, .retAddr 0, .int (nI (s &&& (s - 1))), .int (nI (frN nb s)), .int (nI t)], [], MW A (upB B 26 f) F true, 0, 0) (none, MW A (upB B 26 (takN nb s ways (B 26))) F true, 0, 0)) (f := takS nb (s &&& (s - 1)) ways) (s := frN nb s) ?_ (frN nb s) (B 26) (by omega) ?_ (by omega)
  · intro t f ht ht0 ih3 hin
    have htm : (t - 1) &&& frN nb s ≤ t - 1 := Nat.and_le_left
    have hil := in_le (nb := nb) t (by omega)
    have hsd := sd_le (a := (s &&& (s - 1))) (b := t)
    refine wp_go (f' := ((if (nI t) < 0 then 85 else 35), [.ref 24, .int (nI s), .long ways, .retAddr 0, .int (nI (s &&& (s - 1))), .int (nI (frN nb s)), .int (nI t)], [], MW A (upB B 26 f) F true, 0, 0)) 2 rfl ?_
    refine wp_ite (fun h9 => absurd h9 (ne_m1 ht)) (fun _ => ?_)
    refine wp_go (f' := (44, [.ref 24, .int (nI s), .long ways, .retAddr 0, .int (nI (s &&& (s - 1))), .int (nI (frN nb s)), .int (nI t)], [.int (nI t), .ref 5], MW A (upB B 26 f) F true, 0, 0)) 4 rfl ?_
    refine wp_iald rfl rfl (by omega) (by decide) ?_
    refine wp_eq (f' := (45, [.ref 24, .int (nI s), .long ways, .retAddr 0, .int (nI (s &&& (s - 1))), .int (nI (frN nb s)), .int (nI t)], [.int ((A 5) t)], MW A (upB B 26 f) F true, 0, 0)) rfl ?_
    rw [(hR t (by omega)).2.1]
    refine wp_go (f' := ((if ¬ (nI (inN nb t)) = 0 then 64 else 48), [.ref 24, .int (nI s), .long ways, .retAddr 0, .int (nI (s &&& (s - 1))), .int (nI (frN nb s)), .int (nI t)], [], MW A (upB B 26 f) F true, 0, 0)) 1 rfl ?_
    refine wp_ite (fun h1 => ?_) (fun h1 => ?_)
    · have h1 : ¬ (inN nb t = 0) := fun h9 => h1 ((nI_eq (a := inN nb t) (b := 0) (by omega) (by omega)).mpr h9)
      refine wp_go (f' := ((if ¬ (nI t) = 0 then 73 else 69), [.ref 24, .int (nI s), .long ways, .retAddr 0, .int (nI (s &&& (s - 1))), .int (nI (frN nb s)), .int (nI t)], [], MW A (upB B 26 f) F true, 0, 0)) 2 rfl ?_
      refine wp_ite (fun _ => ?_) (fun h9 => absurd (fun h8 => ht0 ((nI_eq (a := t) (b := 0) (by omega) (by omega)).mp h8)) h9)
      refine wp_go (f' := (77, [.ref 24, .int (nI s), .long ways, .retAddr 0, .int (nI (s &&& (s - 1))), .int (nI (frN nb s)), .int (nI t)], [.int ((nI t) - (nI 1))], MW A (upB B 26 f) F true, 0, 0)) 3 rfl ?_
      rw [pk_sub (by omega)]
      refine wp_go (f' := (80, [.ref 24, .int (nI s), .long ways, .retAddr 0, .int (nI (s &&& (s - 1))), .int (nI (frN nb s)), .int (nI t)], [.int ((nI (t - 1)) &&& (nI (frN nb s)))], MW A (upB B 26 f) F true, 0, 0)) 2 rfl ?_
      rw [bx_and]
      refine wp_go (f' := (30, [.ref 24, .int (nI s), .long ways, .retAddr 0, .int (nI (s &&& (s - 1))), .int (nI (frN nb s)), .int (nI ((t - 1) &&& (frN nb s)))], [], MW A (upB B 26 f) F true, 0, 0)) 2 rfl ?_
      have hL : takS nb (s &&& (s - 1)) ways t f = f := by
        unfold takS; rw [if_neg h1]
      rw [hL] at ih3
      exact ih3 (by omega)
    · have h1 := Classical.not_not.mp h1; have h1 : inN nb t = 0 := (nI_eq (a := inN nb t) (b := 0) (by omega) (by omega)).mp h1
      refine wp_go (f' := (59, [.ref 24, .int (nI s), .long ways, .retAddr 0, .int (nI (s &&& (s - 1))), .int (nI (frN nb s)), .int (nI t)], [.int ((nI (s &&& (s - 1))) &&& ((nI t) ^^^ (-1))), .ref 25], MW A (upB B 26 f) F true, 0, 0)) 7 rfl ?_
      rw [bx_sd (by omega)]
      refine wp_go (f' := (60, [.ref 24, .int (nI s), .long ways, .retAddr 0, .int (nI (s &&& (s - 1))), .int (nI (frN nb s)), .int (nI t)], [.int (nI (sd (s &&& (s - 1)) t)), .ref 25, .int (nI (sd (s &&& (s - 1)) t)), .ref 25], MW A (upB B 26 f) F true, 0, 0)) 1 rfl ?_
      refine wp_lald rfl rfl (by omega) (by decide) ?_
      refine wp_eq (f' := (61, [.ref 24, .int (nI s), .long ways, .retAddr 0, .int (nI (s &&& (s - 1))), .int (nI (frN nb s)), .int (nI t)], [.long (f (sd (s &&& (s - 1)) t)), .int (nI (sd (s &&& (s - 1)) t)), .ref 25], MW A (upB B 26 f) F true, 0, 0)) rfl ?_
      refine wp_go (f' := (63, [.ref 24, .int (nI s), .long ways, .retAddr 0, .int (nI (s &&& (s - 1))), .int (nI (frN nb s)), .int (nI t)], [.long ((f (sd (s &&& (s - 1)) t)) + ways), .int (nI (sd (s &&& (s - 1)) t)), .ref 25], MW A (upB B 26 f) F true, 0, 0)) 2 rfl ?_
      refine wp_last rfl rfl (by omega) (by decide) ?_
      refine wp_eq (f' := (64, [.ref 24, .int (nI s), .long ways, .retAddr 0, .int (nI (s &&& (s - 1))), .int (nI (frN nb s)), .int (nI t)], [], MW A (upB B 26 (vp_updL f (sd (s &&& (s - 1)) t) ((f (sd (s &&& (s - 1)) t)) + ways))) F true, 0, 0)) rfl ?_
      refine wp_go (f' := ((if ¬ (nI t) = 0 then 73 else 69), [.ref 24, .int (nI s), .long ways, .retAddr 0, .int (nI (s &&& (s - 1))), .int (nI (frN nb s)), .int (nI t)], [], MW A (upB B 26 (vp_updL f (sd (s &&& (s - 1)) t) ((f (sd (s &&& (s - 1)) t)) + ways))) F true, 0, 0)) 2 rfl ?_
      refine wp_ite (fun _ => ?_) (fun h9 => absurd (fun h8 => ht0 ((nI_eq (a := t) (b := 0) (by omega) (by omega)).mp h8)) h9)
      refine wp_go (f' := (77, [.ref 24, .int (nI s), .long ways, .retAddr 0, .int (nI (s &&& (s - 1))), .int (nI (frN nb s)), .int (nI t)], [.int ((nI t) - (nI 1))], MW A (upB B 26 (vp_updL f (sd (s &&& (s - 1)) t) ((f (sd (s &&& (s - 1)) t)) + ways))) F true, 0, 0)) 3 rfl ?_
      rw [pk_sub (by omega)]
      refine wp_go (f' := (80, [.ref 24, .int (nI s), .long ways, .retAddr 0, .int (nI (s &&& (s - 1))), .int (nI (frN nb s)), .int (nI t)], [.int ((nI (t - 1)) &&& (nI (frN nb s)))], MW A (upB B 26 (vp_updL f (sd (s &&& (s - 1)) t) ((f (sd (s &&& (s - 1)) t)) + ways))) F true, 0, 0)) 2 rfl ?_
      rw [bx_and]
      refine wp_go (f' := (30, [.ref 24, .int (nI s), .long ways, .retAddr 0, .int (nI (s &&& (s - 1))), .int (nI (frN nb s)), .int (nI ((t - 1) &&& (frN nb s)))], [], MW A (upB B 26 (vp_updL f (sd (s &&& (s - 1)) t) ((f (sd (s &&& (s - 1)) t)) + ways))) F true, 0, 0)) 2 rfl ?_
      have hL : takS nb (s &&& (s - 1)) ways t f = (vp_updL f (sd (s &&& (s - 1)) t) ((f (sd (s &&& (s - 1)) t)) + ways)) := by
        unfold takS; rw [if_pos h1]
      rw [hL] at ih3
      exact ih3 (by omega)
  · intro hin
    have hil := in_le (nb := nb) 0 (by omega)
    have hsd := sd_le (a := (s &&& (s - 1))) (b := 0)
    refine wp_go (f' := ((if (nI 0) < 0 then 85 else 35), [.ref 24, .int (nI s), .long ways, .retAddr 0, .int (nI (s &&& (s - 1))), .int (nI (frN nb s)), .int (nI 0)], [], MW A (upB B 26 (subA (takS nb (s &&& (s - 1)) ways) (frN nb s) (frN nb s) (B 26))) F true, 0, 0)) 2 rfl ?_
    refine wp_ite (fun h9 => absurd h9 (by decide)) (fun _ => ?_)
    refine wp_go (f' := (44, [.ref 24, .int (nI s), .long ways, .retAddr 0, .int (nI (s &&& (s - 1))), .int (nI (frN nb s)), .int (nI 0)], [.int (nI 0), .ref 5], MW A (upB B 26 (subA (takS nb (s &&& (s - 1)) ways) (frN nb s) (frN nb s) (B 26))) F true, 0, 0)) 4 rfl ?_
    refine wp_iald rfl rfl (by omega) (by decide) ?_
    refine wp_eq (f' := (45, [.ref 24, .int (nI s), .long ways, .retAddr 0, .int (nI (s &&& (s - 1))), .int (nI (frN nb s)), .int (nI 0)], [.int ((A 5) 0)], MW A (upB B 26 (subA (takS nb (s &&& (s - 1)) ways) (frN nb s) (frN nb s) (B 26))) F true, 0, 0)) rfl ?_
    rw [(hR 0 (by omega)).2.1]
    refine wp_go (f' := ((if ¬ (nI (inN nb 0)) = 0 then 64 else 48), [.ref 24, .int (nI s), .long ways, .retAddr 0, .int (nI (s &&& (s - 1))), .int (nI (frN nb s)), .int (nI 0)], [], MW A (upB B 26 (subA (takS nb (s &&& (s - 1)) ways) (frN nb s) (frN nb s) (B 26))) F true, 0, 0)) 1 rfl ?_
    refine wp_ite (fun h1 => ?_) (fun h1 => ?_)
    · have h1 : ¬ (inN nb 0 = 0) := fun h9 => h1 ((nI_eq (a := inN nb 0) (b := 0) (by omega) (by omega)).mpr h9)
      refine wp_go (f' := ((if ¬ (nI 0) = 0 then 73 else 69), [.ref 24, .int (nI s), .long ways, .retAddr 0, .int (nI (s &&& (s - 1))), .int (nI (frN nb s)), .int (nI 0)], [], MW A (upB B 26 (subA (takS nb (s &&& (s - 1)) ways) (frN nb s) (frN nb s) (B 26))) F true, 0, 0)) 2 rfl ?_
      refine wp_ite (fun h9 => absurd h9 (fun h8 => h8 rfl)) (fun _ => ?_)
      refine wp_go (f' := (30, [.ref 24, .int (nI s), .long ways, .retAddr 0, .int (nI (s &&& (s - 1))), .int (nI (frN nb s)), .int (-1)], [], MW A (upB B 26 (subA (takS nb (s &&& (s - 1)) ways) (frN nb s) (frN nb s) (B 26))) F true, 0, 0)) 4 rfl ?_
      have hL : takS nb (s &&& (s - 1)) ways 0 (subA (takS nb (s &&& (s - 1)) ways) (frN nb s) (frN nb s) (B 26)) = (subA (takS nb (s &&& (s - 1)) ways) (frN nb s) (frN nb s) (B 26)) := by
        unfold takS; rw [if_neg h1]
      rw [← hL]
      refine wp_go (f' := ((if (-1) < 0 then 85 else 35), [.ref 24, .int (nI s), .long ways, .retAddr 0, .int (nI (s &&& (s - 1))), .int (nI (frN nb s)), .int (-1)], [], MW A (upB B 26 (takS nb (s &&& (s - 1)) ways 0 (subA (takS nb (s &&& (s - 1)) ways) (frN nb s) (frN nb s) (B 26)))) F true, 0, 0)) 2 rfl ?_
      refine wp_ite (fun _ => ?_) (fun h9 => absurd (by decide : (-1 : Int32) < 0) h9)
      exact wp_vret rfl
    · have h1 := Classical.not_not.mp h1; have h1 : inN nb 0 = 0 := (nI_eq (a := inN nb 0) (b := 0) (by omega) (by omega)).mp h1
      refine wp_go (f' := (59, [.ref 24, .int (nI s), .long ways, .retAddr 0, .int (nI (s &&& (s - 1))), .int (nI (frN nb s)), .int (nI 0)], [.int ((nI (s &&& (s - 1))) &&& ((nI 0) ^^^ (-1))), .ref 25], MW A (upB B 26 (subA (takS nb (s &&& (s - 1)) ways) (frN nb s) (frN nb s) (B 26))) F true, 0, 0)) 7 rfl ?_
      rw [bx_sd (by omega)]
      refine wp_go (f' := (60, [.ref 24, .int (nI s), .long ways, .retAddr 0, .int (nI (s &&& (s - 1))), .int (nI (frN nb s)), .int (nI 0)], [.int (nI (sd (s &&& (s - 1)) 0)), .ref 25, .int (nI (sd (s &&& (s - 1)) 0)), .ref 25], MW A (upB B 26 (subA (takS nb (s &&& (s - 1)) ways) (frN nb s) (frN nb s) (B 26))) F true, 0, 0)) 1 rfl ?_
      refine wp_lald rfl rfl (by omega) (by decide) ?_
      refine wp_eq (f' := (61, [.ref 24, .int (nI s), .long ways, .retAddr 0, .int (nI (s &&& (s - 1))), .int (nI (frN nb s)), .int (nI 0)], [.long ((subA (takS nb (s &&& (s - 1)) ways) (frN nb s) (frN nb s) (B 26)) (sd (s &&& (s - 1)) 0)), .int (nI (sd (s &&& (s - 1)) 0)), .ref 25], MW A (upB B 26 (subA (takS nb (s &&& (s - 1)) ways) (frN nb s) (frN nb s) (B 26))) F true, 0, 0)) rfl ?_
      refine wp_go (f' := (63, [.ref 24, .int (nI s), .long ways, .retAddr 0, .int (nI (s &&& (s - 1))), .int (nI (frN nb s)), .int (nI 0)], [.long (((subA (takS nb (s &&& (s - 1)) ways) (frN nb s) (frN nb s) (B 26)) (sd (s &&& (s - 1)) 0)) + ways), .int (nI (sd (s &&& (s - 1)) 0)), .ref 25], MW A (upB B 26 (subA (takS nb (s &&& (s - 1)) ways) (frN nb s) (frN nb s) (B 26))) F true, 0, 0)) 2 rfl ?_
      refine wp_last rfl rfl (by omega) (by decide) ?_
      refine wp_eq (f' := (64, [.ref 24, .int (nI s), .long ways, .retAddr 0, .int (nI (s &&& (s - 1))), .int (nI (frN nb s)), .int (nI 0)], [], MW A (upB B 26 (vp_updL (subA (takS nb (s &&& (s - 1)) ways) (frN nb s) (frN nb s) (B 26)) (sd (s &&& (s - 1)) 0) (((subA (takS nb (s &&& (s - 1)) ways) (frN nb s) (frN nb s) (B 26)) (sd (s &&& (s - 1)) 0)) + ways))) F true, 0, 0)) rfl ?_
      refine wp_go (f' := ((if ¬ (nI 0) = 0 then 73 else 69), [.ref 24, .int (nI s), .long ways, .retAddr 0, .int (nI (s &&& (s - 1))), .int (nI (frN nb s)), .int (nI 0)], [], MW A (upB B 26 (vp_updL (subA (takS nb (s &&& (s - 1)) ways) (frN nb s) (frN nb s) (B 26)) (sd (s &&& (s - 1)) 0) (((subA (takS nb (s &&& (s - 1)) ways) (frN nb s) (frN nb s) (B 26)) (sd (s &&& (s - 1)) 0)) + ways))) F true, 0, 0)) 2 rfl ?_
      refine wp_ite (fun h9 => absurd h9 (fun h8 => h8 rfl)) (fun _ => ?_)
      refine wp_go (f' := (30, [.ref 24, .int (nI s), .long ways, .retAddr 0, .int (nI (s &&& (s - 1))), .int (nI (frN nb s)), .int (-1)], [], MW A (upB B 26 (vp_updL (subA (takS nb (s &&& (s - 1)) ways) (frN nb s) (frN nb s) (B 26)) (sd (s &&& (s - 1)) 0) (((subA (takS nb (s &&& (s - 1)) ways) (frN nb s) (frN nb s) (B 26)) (sd (s &&& (s - 1)) 0)) + ways))) F true, 0, 0)) 4 rfl ?_
      have hL : takS nb (s &&& (s - 1)) ways 0 (subA (takS nb (s &&& (s - 1)) ways) (frN nb s) (frN nb s) (B 26)) = (vp_updL (subA (takS nb (s &&& (s - 1)) ways) (frN nb s) (frN nb s) (B 26)) (sd (s &&& (s - 1)) 0) (((subA (takS nb (s &&& (s - 1)) ways) (frN nb s) (frN nb s) (B 26)) (sd (s &&& (s - 1)) 0)) + ways)) := by
        unfold takS; rw [if_pos h1]
      rw [← hL]
      refine wp_go (f' := ((if (-1) < 0 then 85 else 35), [.ref 24, .int (nI s), .long ways, .retAddr 0, .int (nI (s &&& (s - 1))), .int (nI (frN nb s)), .int (-1)], [], MW A (upB B 26 (takS nb (s &&& (s - 1)) ways 0 (subA (takS nb (s &&& (s - 1)) ways) (frN nb s) (frN nb s) (B 26)))) F true, 0, 0)) 2 rfl ?_
      refine wp_ite (fun _ => ?_) (fun h9 => absurd (by decide : (-1 : Int32) < 0) h9)
      exact wp_vret rfl
theorem ev_cTake (hC : CI A F n nb) (hR : RI A n nb) {s : Nat} (hs : s < 2 ^ n) (hs0 : ¬ s = 0) (ways : Int64) : mv_Ev xs Ls 3 62 [.ref 24, .int (nI s), .long ways] (MW A B F sw) (none, MW A (upB B 26 (takN nb s ways (B 26))) F sw, 0, 0) := by
  cases sw
  · exact ev_cTake_f hC hR hs hs0 ways
  · exact ev_cTake_t hC hR hs hs0 ways
theorem ev_cOne_f (hC : CI A F n nb) (hR : RI A n nb) (c : Int32) : mv_Ev xs Ls 4 61 [.ref 24, .int c] (MW A B F false) (none, MW A (upB (upB B 25 (colC n nb c.toInt64 (B 25, B 26)).2) 26 (colC n nb c.toInt64 (B 25, B 26)).1) F (!false), 0, 0) := by
  refine ev_of_wp rfl rfl rfl ?_
  have hn := hC.1
  have hp := pow10 hn
  have hp1 : 1 ≤ 2 ^ n := Nat.one_le_two_pow
  have hal := all_lt hn
  refine wp_go (f' := (4, [.ref 24, .int c, .retAddr 0, .retAddr 0], [.ref 1], MW A B F false, 0, 0)) 2 rfl ?_
  refine wp_call rfl rfl rfl (ev_up (ev_gAll hC) (by decide)) ?_
  refine wp_eq (f' := (7, [.ref 24, .int c, .retAddr 0, .retAddr 0], [.int (nI (2 ^ n - 1))], MW A B F false, 0, 0)) rfl ?_
  refine wp_go (f' := (14, [.ref 24, .int c, .int (nI (2 ^ n - 1)), .retAddr 0], [.long 0, .int (nI 0), .ref 25], MW A B F false, 0, 0)) 5 rfl ?_
  refine wp_last rfl rfl (by omega) (by decide) ?_
  refine wp_eq (f' := (15, [.ref 24, .int c, .int (nI (2 ^ n - 1)), .retAddr 0], [], MW A (upB B 25 (vp_updL (B 25) 0 0)) F false, 0, 0)) rfl ?_
  refine wp_go (f' := (17, [.ref 24, .int c, .int (nI (2 ^ n - 1)), .int (nI 1)], [], MW A (upB B 25 (vp_updL (B 25) 0 0)) F false, 0, 0)) 2 rfl ?_
  refine wp_eq (f' := (17, [.ref 24, .int c, .int (nI (2 ^ n - 1)), .int (nI 1)], [], MW A (upB (upB B 25 (vp_updL (B 25) 0 0)) 26 (B 26)) F false, 0, 0)) rfl ?_
  refine for_ind (P := fun (k : Nat) (q : (Nat → Int64) × (Nat → Int64)) => mv_Wp xs Ls 3 0 false none mv_c61 (17, [.ref 24, .int c, .int (nI (2 ^ n - 1)), .int (nI (k + 1))], [], MW A (upB (upB B 25 q.1) 26 q.2) F false, 0, 0) (none, MW A (upB (upB B 25 (colC n nb c.toInt64 (B 25, B 26)).2) 26 (colC n nb c.toInt64 (B 25, B 26)).1) F (!false), 0, 0)) (f := colS nb c.toInt64) (n := 2 ^ n - 1) ?_ (2 ^ n - 1) (vp_updL (B 25) 0 0, B 26) (Nat.le_refl _) ?_
  · intro k q hk ih
    refine wp_go (f' := ((if (nI (2 ^ n - 1)) < (nI (k + 1)) then 60 else 22), [.ref 24, .int c, .int (nI (2 ^ n - 1)), .int (nI (k + 1))], [], MW A (upB (upB B 25 q.1) 26 q.2) F false, 0, 0)) 3 rfl ?_
    refine wp_ite (fun h9 => absurd h9 (nI_nlt (by omega) (by omega))) (fun _ => ?_)
    refine wp_go (f' := (27, [.ref 24, .int c, .int (nI (2 ^ n - 1)), .int (nI (k + 1))], [.int (nI (k + 1)), .ref 25], MW A (upB (upB B 25 q.1) 26 q.2) F false, 0, 0)) 3 rfl ?_
    refine wp_lald rfl rfl (by omega) (by decide) ?_
    refine wp_eq (f' := (28, [.ref 24, .int c, .int (nI (2 ^ n - 1)), .int (nI (k + 1))], [.long (q.1 (k + 1))], MW A (upB (upB B 25 q.1) 26 q.2) F false, 0, 0)) rfl ?_
    refine wp_go (f' := ((if (lg_cmp (q.1 (k + 1)) 0) = 0 then 54 else 33), [.ref 24, .int c, .int (nI (2 ^ n - 1)), .int (nI (k + 1))], [], MW A (upB (upB B 25 q.1) 26 q.2) F false, 0, 0)) 3 rfl ?_
    refine wp_ite (fun h1 => ?_) (fun h1 => ?_)
    · skip
      refine wp_go (f' := (57, [.ref 24, .int c, .int (nI (2 ^ n - 1)), .int ((nI (k + 1)) + 1)], [], MW A (upB (upB B 25 q.1) 26 q.2) F false, 0, 0)) 1 rfl ?_
      rw [nI_1]
      refine wp_go (f' := (17, [.ref 24, .int c, .int (nI (2 ^ n - 1)), .int (nI ((k + 1) + 1))], [], MW A (upB (upB B 25 q.1) 26 q.2) F false, 0, 0)) 1 rfl ?_
      have h9 := (lg_cmp_eq _ _).mp h1
      have e9 : colS nb c.toInt64 k q = q := by unfold colS; rw [if_pos h9]
      rw [e9] at ih
      exact ih
    · skip
      refine wp_go (f' := (40, [.ref 24, .int c, .int (nI (2 ^ n - 1)), .int (nI (k + 1))], [.int (nI (k + 1)), .ref 25, .int (nI (k + 1)), .ref 24], MW A (upB (upB B 25 q.1) 26 q.2) F false, 0, 0)) 5 rfl ?_
      refine wp_lald rfl rfl (by omega) (by decide) ?_
      refine wp_eq (f' := (41, [.ref 24, .int c, .int (nI (2 ^ n - 1)), .int (nI (k + 1))], [.long (q.1 (k + 1)), .int (nI (k + 1)), .ref 24], MW A (upB (upB B 25 q.1) 26 q.2) F false, 0, 0)) rfl ?_
      refine wp_go (f' := (44, [.ref 24, .int c, .int (nI (2 ^ n - 1)), .int (nI (k + 1))], [.long ((q.1 (k + 1)) * c.toInt64), .int (nI (k + 1)), .ref 24], MW A (upB (upB B 25 q.1) 26 q.2) F false, 0, 0)) 3 rfl ?_
      refine wp_call rfl rfl rfl (ev_up (ev_cTake (B := upB (upB B 25 q.1) 26 q.2) hC hR (s := k + 1) (by omega) (by omega) (q.1 (k + 1) * c.toInt64)) (by decide)) ?_
      refine wp_eq (f' := (47, [.ref 24, .int c, .int (nI (2 ^ n - 1)), .int (nI (k + 1))], [], MW A (upB (upB B 25 q.1) 26 (takN nb (k + 1) (q.1 (k + 1) * c.toInt64) q.2)) F false, 0, 0)) rfl ?_
      refine wp_go (f' := (53, [.ref 24, .int c, .int (nI (2 ^ n - 1)), .int (nI (k + 1))], [.long 0, .int (nI (k + 1)), .ref 25], MW A (upB (upB B 25 q.1) 26 (takN nb (k + 1) (q.1 (k + 1) * c.toInt64) q.2)) F false, 0, 0)) 4 rfl ?_
      refine wp_last rfl rfl (by omega) (by decide) ?_
      refine wp_eq (f' := (54, [.ref 24, .int c, .int (nI (2 ^ n - 1)), .int (nI (k + 1))], [], MW A (upB (upB B 26 (takN nb (k + 1) (q.1 (k + 1) * c.toInt64) q.2)) 25 (vp_updL q.1 (k + 1) 0)) F false, 0, 0)) rfl ?_
      refine wp_go (f' := (57, [.ref 24, .int c, .int (nI (2 ^ n - 1)), .int ((nI (k + 1)) + 1)], [], MW A (upB (upB B 26 (takN nb (k + 1) (q.1 (k + 1) * c.toInt64) q.2)) 25 (vp_updL q.1 (k + 1) 0)) F false, 0, 0)) 1 rfl ?_
      rw [nI_1]
      refine wp_go (f' := (17, [.ref 24, .int c, .int (nI (2 ^ n - 1)), .int (nI ((k + 1) + 1))], [], MW A (upB (upB B 26 (takN nb (k + 1) (q.1 (k + 1) * c.toInt64) q.2)) 25 (vp_updL q.1 (k + 1) 0)) F false, 0, 0)) 1 rfl ?_
      have h9 := (fun h8 => h1 ((lg_cmp_eq _ _).mpr h8) : ¬ q.1 (k + 1) = 0)
      have e9 : colS nb c.toInt64 k q = (vp_updL q.1 (k + 1) 0, takN nb (k + 1) (q.1 (k + 1) * c.toInt64) q.2) := by unfold colS; rw [if_neg h9]
      rw [e9] at ih
      exact ih
  · skip
    refine wp_go (f' := ((if (nI (2 ^ n - 1)) < (nI (2 ^ n - 1 + 1)) then 60 else 22), [.ref 24, .int c, .int (nI (2 ^ n - 1)), .int (nI (2 ^ n - 1 + 1))], [], MW A (upB (upB B 25 (colC n nb c.toInt64 (B 25, B 26)).1) 26 (colC n nb c.toInt64 (B 25, B 26)).2) F false, 0, 0)) 3 rfl ?_
    refine wp_ite (fun _ => ?_) (fun h9 => absurd (nI_lt (by omega) (by omega)) h9)
    refine wp_go (f' := (78, [.ref 24, .int c, .int (nI (2 ^ n - 1)), .ref 25], [], MW A (upB (upB B 25 (colC n nb c.toInt64 (B 25, B 26)).2) 26 (colC n nb c.toInt64 (B 25, B 26)).1) F true, 0, 0)) 10 rfl ?_
    exact wp_vret rfl
theorem ev_cOne_t (hC : CI A F n nb) (hR : RI A n nb) (c : Int32) : mv_Ev xs Ls 4 61 [.ref 24, .int c] (MW A B F true) (none, MW A (upB (upB B 25 (colC n nb c.toInt64 (B 25, B 26)).2) 26 (colC n nb c.toInt64 (B 25, B 26)).1) F (!true), 0, 0) := by
  refine ev_of_wp rfl rfl rfl ?_
  have hn := hC.1
  have hp := pow10 hn
  have hp1 : 1 ≤ 2 ^ n := Nat.one_le_two_pow
  have hal := all_lt hn
  refine wp_go (f' := (4, [.ref 24, .int c, .retAddr 0, .retAddr 0], [.ref 1], MW A B F true, 0, 0)) 2 rfl ?_
  refine wp_call rfl rfl rfl (ev_up (ev_gAll hC) (by decide)) ?_
  refine wp_eq (f' := (7, [.ref 24, .int c, .retAddr 0, .retAddr 0], [.int (nI (2 ^ n - 1))], MW A B F true, 0, 0)) rfl ?_
  refine wp_go (f' := (14, [.ref 24, .int c, .int (nI (2 ^ n - 1)), .retAddr 0], [.long 0, .int (nI 0), .ref 26], MW A B F true, 0, 0)) 5 rfl ?_
  refine wp_last rfl rfl (by omega) (by decide) ?_
  refine wp_eq (f' := (15, [.ref 24, .int c, .int (nI (2 ^ n - 1)), .retAddr 0], [], MW A (upB B 25 (vp_updL (B 25) 0 0)) F true, 0, 0)) rfl ?_
  refine wp_go (f' := (17, [.ref 24, .int c, .int (nI (2 ^ n - 1)), .int (nI 1)], [], MW A (upB B 25 (vp_updL (B 25) 0 0)) F true, 0, 0)) 2 rfl ?_
  refine wp_eq (f' := (17, [.ref 24, .int c, .int (nI (2 ^ n - 1)), .int (nI 1)], [], MW A (upB (upB B 25 (vp_updL (B 25) 0 0)) 26 (B 26)) F true, 0, 0)) rfl ?_
  refine for_ind (P := fun (k : Nat) (q : (Nat → Int64) × (Nat → Int64)) => mv_Wp xs Ls 3 0 false none mv_c61 (17, [.ref 24, .int c, .int (nI (2 ^ n - 1)), .int (nI (k + 1))], [], MW A (upB (upB B 25 q.1) 26 q.2) F true, 0, 0) (none, MW A (upB (upB B 25 (colC n nb c.toInt64 (B 25, B 26)).2) 26 (colC n nb c.toInt64 (B 25, B 26)).1) F (!true), 0, 0)) (f := colS nb c.toInt64) (n := 2 ^ n - 1) ?_ (2 ^ n - 1) (vp_updL (B 25) 0 0, B 26) (Nat.le_refl _) ?_
  · intro k q hk ih
    refine wp_go (f' := ((if (nI (2 ^ n - 1)) < (nI (k + 1)) then 60 else 22), [.ref 24, .int c, .int (nI (2 ^ n - 1)), .int (nI (k + 1))], [], MW A (upB (upB B 25 q.1) 26 q.2) F true, 0, 0)) 3 rfl ?_
    refine wp_ite (fun h9 => absurd h9 (nI_nlt (by omega) (by omega))) (fun _ => ?_)
    refine wp_go (f' := (27, [.ref 24, .int c, .int (nI (2 ^ n - 1)), .int (nI (k + 1))], [.int (nI (k + 1)), .ref 26], MW A (upB (upB B 25 q.1) 26 q.2) F true, 0, 0)) 3 rfl ?_
    refine wp_lald rfl rfl (by omega) (by decide) ?_
    refine wp_eq (f' := (28, [.ref 24, .int c, .int (nI (2 ^ n - 1)), .int (nI (k + 1))], [.long (q.1 (k + 1))], MW A (upB (upB B 25 q.1) 26 q.2) F true, 0, 0)) rfl ?_
    refine wp_go (f' := ((if (lg_cmp (q.1 (k + 1)) 0) = 0 then 54 else 33), [.ref 24, .int c, .int (nI (2 ^ n - 1)), .int (nI (k + 1))], [], MW A (upB (upB B 25 q.1) 26 q.2) F true, 0, 0)) 3 rfl ?_
    refine wp_ite (fun h1 => ?_) (fun h1 => ?_)
    · skip
      refine wp_go (f' := (57, [.ref 24, .int c, .int (nI (2 ^ n - 1)), .int ((nI (k + 1)) + 1)], [], MW A (upB (upB B 25 q.1) 26 q.2) F true, 0, 0)) 1 rfl ?_
      rw [nI_1]
      refine wp_go (f' := (17, [.ref 24, .int c, .int (nI (2 ^ n - 1)), .int (nI ((k + 1) + 1))], [], MW A (upB (upB B 25 q.1) 26 q.2) F true, 0, 0)) 1 rfl ?_
      have h9 := (lg_cmp_eq _ _).mp h1
      have e9 : colS nb c.toInt64 k q = q := by unfold colS; rw [if_pos h9]
      rw [e9] at ih
      exact ih
    · skip
      refine wp_go (f' := (40, [.ref 24, .int c, .int (nI (2 ^ n - 1)), .int (nI (k + 1))], [.int (nI (k + 1)), .ref 26, .int (nI (k + 1)), .ref 24], MW A (upB (upB B 25 q.1) 26 q.2) F true, 0, 0)) 5 rfl ?_
      refine wp_lald rfl rfl (by omega) (by decide) ?_
      refine wp_eq (f' := (41, [.ref 24, .int c, .int (nI (2 ^ n - 1)), .int (nI (k + 1))], [.long (q.1 (k + 1)), .int (nI (k + 1)), .ref 24], MW A (upB (upB B 25 q.1) 26 q.2) F true, 0, 0)) rfl ?_
      refine wp_go (f' := (44, [.ref 24, .int c, .int (nI (2 ^ n - 1)), .int (nI (k + 1))], [.long ((q.1 (k + 1)) * c.toInt64), .int (nI (k + 1)), .ref 24], MW A (upB (upB B 25 q.1) 26 q.2) F true, 0, 0)) 3 rfl ?_
      refine wp_call rfl rfl rfl (ev_up (ev_cTake (B := upB (upB B 25 q.1) 26 q.2) hC hR (s := k + 1) (by omega) (by omega) (q.1 (k + 1) * c.toInt64)) (by decide)) ?_
      refine wp_eq (f' := (47, [.ref 24, .int c, .int (nI (2 ^ n - 1)), .int (nI (k + 1))], [], MW A (upB (upB B 25 q.1) 26 (takN nb (k + 1) (q.1 (k + 1) * c.toInt64) q.2)) F true, 0, 0)) rfl ?_
      refine wp_go (f' := (53, [.ref 24, .int c, .int (nI (2 ^ n - 1)), .int (nI (k + 1))], [.long 0, .int (nI (k + 1)), .ref 26], MW A (upB (upB B 25 q.1) 26 (takN nb (k + 1) (q.1 (k + 1) * c.toInt64) q.2)) F true, 0, 0)) 4 rfl ?_
      refine wp_last rfl rfl (by omega) (by decide) ?_
      refine wp_eq (f' := (54, [.ref 24, .int c, .int (nI (2 ^ n - 1)), .int (nI (k + 1))], [], MW A (upB (upB B 26 (takN nb (k + 1) (q.1 (k + 1) * c.toInt64) q.2)) 25 (vp_updL q.1 (k + 1) 0)) F true, 0, 0)) rfl ?_
      refine wp_go (f' := (57, [.ref 24, .int c, .int (nI (2 ^ n - 1)), .int ((nI (k + 1)) + 1)], [], MW A (upB (upB B 26 (takN nb (k + 1) (q.1 (k + 1) * c.toInt64) q.2)) 25 (vp_updL q.1 (k + 1) 0)) F true, 0, 0)) 1 rfl ?_
      rw [nI_1]
      refine wp_go (f' := (17, [.ref 24, .int c, .int (nI (2 ^ n - 1)), .int (nI ((k + 1) + 1))], [], MW A (upB (upB B 26 (takN nb (k + 1) (q.1 (k + 1) * c.toInt64) q.2)) 25 (vp_updL q.1 (k + 1) 0)) F true, 0, 0)) 1 rfl ?_
      have h9 := (fun h8 => h1 ((lg_cmp_eq _ _).mpr h8) : ¬ q.1 (k + 1) = 0)
      have e9 : colS nb c.toInt64 k q = (vp_updL q.1 (k + 1) 0, takN nb (k + 1) (q.1 (k + 1) * c.toInt64) q.2) := by unfold colS; rw [if_neg h9]
      rw [e9] at ih
      exact ih
  · skip
    refine wp_go (f' := ((if (nI (2 ^ n - 1)) < (nI (2 ^ n - 1 + 1)) then 60 else 22), [.ref 24, .int c, .int (nI (2 ^ n - 1)), .int (nI (2 ^ n - 1 + 1))], [], MW A (upB (upB B 25 (colC n nb c.toInt64 (B 25, B 26)).1) 26 (colC n nb c.toInt64 (B 25, B 26)).2) F true, 0, 0)) 3 rfl ?_
    refine wp_ite (fun _ => ?_) (fun h9 => absurd (nI_lt (by omega) (by omega)) h9)
    refine wp_go (f' := (78, [.ref 24, .int c, .int (nI (2 ^ n - 1)), .ref 26], [], MW A (upB (upB B 25 (colC n nb c.toInt64 (B 25, B 26)).2) 26 (colC n nb c.toInt64 (B 25, B 26)).1) F false, 0, 0)) 10 rfl ?_
    exact wp_vret rfl
theorem ev_cOne (hC : CI A F n nb) (hR : RI A n nb) (c : Int32) : mv_Ev xs Ls 4 61 [.ref 24, .int c] (MW A B F sw) (none, MW A (upB (upB B 25 (colC n nb c.toInt64 (B 25, B 26)).2) 26 (colC n nb c.toInt64 (B 25, B 26)).1) F (!sw), 0, 0) := by
  cases sw
  · exact ev_cOne_f hC hR c
  · exact ev_cOne_t hC hR c
theorem lq_cCol (hC : CI A F n nb) (hR : RI A n nb) (x : Int32) : mv_Wp xs Ls 4 0 false (some .long) mv_c59 (27, [.ref 24, .int x, .long ((col0 n (B 25, B 26)).1 0), .retAddr 0, .int (nI 0)], [], MW A (upB (upB B 25 (col0 n (B 25, B 26)).1) 26 (col0 n (B 25, B 26)).2) F sw, 0, 0) (some (.long (colN n nb x (B 25, B 26) sw).2.1), MW A (upB (upB B 25 (colN n nb x (B 25, B 26) sw).1.1) 26 (colN n nb x (B 25, B 26) sw).1.2) F (colN n nb x (B 25, B 26) sw).2.2, 0, 0) := by
  have hn := hC.1
  have hp := pow10 hn
  have hp1 : 1 ≤ 2 ^ n := Nat.one_le_two_pow
  have hal := all_lt hn
  refine for_ind (P := fun (k : Nat) (q : ((Nat → Int64) × (Nat → Int64)) × Int64 × Bool) => mv_Wp xs Ls 4 0 false (some .long) mv_c59 (27, [.ref 24, .int x, .long q.2.1, .retAddr 0, .int (nI k)], [], MW A (upB (upB B 25 q.1.1) 26 q.1.2) F q.2.2, 0, 0) (some (.long (colN n nb x (B 25, B 26) sw).2.1), MW A (upB (upB B 25 (colN n nb x (B 25, B 26) sw).1.1) 26 (colN n nb x (B 25, B 26) sw).1.2) F (colN n nb x (B 25, B 26) sw).2.2, 0, 0)) (f := colR n nb x) (n := n) ?_ n (col0 n (B 25, B 26), (col0 n (B 25, B 26)).1 0, sw) (Nat.le_refl _) ?_
  · intro k q hk ih
    obtain ⟨⟨f, g⟩, a, sb⟩ := q
    cases sb
    · skip
      refine wp_go (f' := (36, [.ref 24, .int x, .long a, .retAddr 0, .int (nI k)], [.int (F 0), .int (nI k)], MW A (upB (upB B 25 f) 26 g) F false, 0, 0)) 4 rfl ?_
      rw [hC.2.1]
      refine wp_go (f' := ((if (nI n) ≤ (nI k) then 62 else 39), [.ref 24, .int x, .long a, .retAddr 0, .int (nI k)], [], MW A (upB (upB B 25 f) 26 g) F false, 0, 0)) 1 rfl ?_
      refine wp_ite (fun h9 => absurd h9 (nI_ge hk (by omega))) (fun _ => ?_)
      refine wp_go (f' := (44, [.ref 24, .int x, .long a, .retAddr 0, .int (nI k)], [.int (x - (nI k)), .ref 24], MW A (upB (upB B 25 f) 26 g) F false, 0, 0)) 4 rfl ?_
      refine wp_call rfl rfl rfl (ev_up (ev_cOne (sw := false) (B := upB (upB B 25 f) 26 g) hC hR (x - nI k)) (by decide)) ?_
      refine wp_eq (f' := (47, [.ref 24, .int x, .long a, .retAddr 0, .int (nI k)], [], MW A (upB (upB B 25 (colC n nb (x - nI k).toInt64 (f, g)).2) 26 (colC n nb (x - nI k).toInt64 (f, g)).1) F true, 0, 0)) rfl ?_
      refine wp_go (f' := (53, [.ref 24, .int x, .long a, .retAddr 0, .int (nI k)], [.int (nI 0), .ref 26, .long a], MW A (upB (upB B 25 (colC n nb (x - nI k).toInt64 (f, g)).2) 26 (colC n nb (x - nI k).toInt64 (f, g)).1) F true, 0, 0)) 4 rfl ?_
      refine wp_lald rfl rfl (by omega) (by decide) ?_
      refine wp_eq (f' := (54, [.ref 24, .int x, .long a, .retAddr 0, .int (nI k)], [.long ((colC n nb (x - nI k).toInt64 (f, g)).2 0), .long a], MW A (upB (upB B 25 (colC n nb (x - nI k).toInt64 (f, g)).2) 26 (colC n nb (x - nI k).toInt64 (f, g)).1) F true, 0, 0)) rfl ?_
      refine wp_go (f' := (59, [.ref 24, .int x, .long (a + ((colC n nb (x - nI k).toInt64 (f, g)).2 0)), .retAddr 0, .int ((nI k) + 1)], [], MW A (upB (upB B 25 (colC n nb (x - nI k).toInt64 (f, g)).2) 26 (colC n nb (x - nI k).toInt64 (f, g)).1) F true, 0, 0)) 3 rfl ?_
      rw [nI_1]
      refine wp_go (f' := (27, [.ref 24, .int x, .long (a + ((colC n nb (x - nI k).toInt64 (f, g)).2 0)), .retAddr 0, .int (nI (k + 1))], [], MW A (upB (upB B 25 (colC n nb (x - nI k).toInt64 (f, g)).2) 26 (colC n nb (x - nI k).toInt64 (f, g)).1) F true, 0, 0)) 1 rfl ?_
      exact ih
    · skip
      refine wp_go (f' := (36, [.ref 24, .int x, .long a, .retAddr 0, .int (nI k)], [.int (F 0), .int (nI k)], MW A (upB (upB B 25 f) 26 g) F true, 0, 0)) 4 rfl ?_
      rw [hC.2.1]
      refine wp_go (f' := ((if (nI n) ≤ (nI k) then 62 else 39), [.ref 24, .int x, .long a, .retAddr 0, .int (nI k)], [], MW A (upB (upB B 25 f) 26 g) F true, 0, 0)) 1 rfl ?_
      refine wp_ite (fun h9 => absurd h9 (nI_ge hk (by omega))) (fun _ => ?_)
      refine wp_go (f' := (44, [.ref 24, .int x, .long a, .retAddr 0, .int (nI k)], [.int (x - (nI k)), .ref 24], MW A (upB (upB B 25 f) 26 g) F true, 0, 0)) 4 rfl ?_
      refine wp_call rfl rfl rfl (ev_up (ev_cOne (sw := true) (B := upB (upB B 25 f) 26 g) hC hR (x - nI k)) (by decide)) ?_
      refine wp_eq (f' := (47, [.ref 24, .int x, .long a, .retAddr 0, .int (nI k)], [], MW A (upB (upB B 25 (colC n nb (x - nI k).toInt64 (f, g)).2) 26 (colC n nb (x - nI k).toInt64 (f, g)).1) F false, 0, 0)) rfl ?_
      refine wp_go (f' := (53, [.ref 24, .int x, .long a, .retAddr 0, .int (nI k)], [.int (nI 0), .ref 25, .long a], MW A (upB (upB B 25 (colC n nb (x - nI k).toInt64 (f, g)).2) 26 (colC n nb (x - nI k).toInt64 (f, g)).1) F false, 0, 0)) 4 rfl ?_
      refine wp_lald rfl rfl (by omega) (by decide) ?_
      refine wp_eq (f' := (54, [.ref 24, .int x, .long a, .retAddr 0, .int (nI k)], [.long ((colC n nb (x - nI k).toInt64 (f, g)).2 0), .long a], MW A (upB (upB B 25 (colC n nb (x - nI k).toInt64 (f, g)).2) 26 (colC n nb (x - nI k).toInt64 (f, g)).1) F false, 0, 0)) rfl ?_
      refine wp_go (f' := (59, [.ref 24, .int x, .long (a + ((colC n nb (x - nI k).toInt64 (f, g)).2 0)), .retAddr 0, .int ((nI k) + 1)], [], MW A (upB (upB B 25 (colC n nb (x - nI k).toInt64 (f, g)).2) 26 (colC n nb (x - nI k).toInt64 (f, g)).1) F false, 0, 0)) 3 rfl ?_
      rw [nI_1]
      refine wp_go (f' := (27, [.ref 24, .int x, .long (a + ((colC n nb (x - nI k).toInt64 (f, g)).2 0)), .retAddr 0, .int (nI (k + 1))], [], MW A (upB (upB B 25 (colC n nb (x - nI k).toInt64 (f, g)).2) 26 (colC n nb (x - nI k).toInt64 (f, g)).1) F false, 0, 0)) 1 rfl ?_
      exact ih
  · skip
    refine wp_go (f' := (36, [.ref 24, .int x, .long ((colN n nb x (B 25, B 26) sw).2.1), .retAddr 0, .int (nI n)], [.int (F 0), .int (nI n)], MW A (upB (upB B 25 (colN n nb x (B 25, B 26) sw).1.1) 26 (colN n nb x (B 25, B 26) sw).1.2) F (colN n nb x (B 25, B 26) sw).2.2, 0, 0)) 4 rfl ?_
    rw [hC.2.1]
    refine wp_go (f' := ((if (nI n) ≤ (nI n) then 62 else 39), [.ref 24, .int x, .long ((colN n nb x (B 25, B 26) sw).2.1), .retAddr 0, .int (nI n)], [], MW A (upB (upB B 25 (colN n nb x (B 25, B 26) sw).1.1) 26 (colN n nb x (B 25, B 26) sw).1.2) F (colN n nb x (B 25, B 26) sw).2.2, 0, 0)) 1 rfl ?_
    refine wp_ite (fun _ => ?_) (fun h9 => absurd (nI_le (Nat.le_refl _) (by omega)) h9)
    refine wp_go (f' := (63, [.ref 24, .int x, .long ((colN n nb x (B 25, B 26) sw).2.1), .retAddr 0, .int (nI n)], [.long ((colN n nb x (B 25, B 26) sw).2.1)], MW A (upB (upB B 25 (colN n nb x (B 25, B 26) sw).1.1) 26 (colN n nb x (B 25, B 26) sw).1.2) F (colN n nb x (B 25, B 26) sw).2.2, 0, 0)) 1 rfl ?_
    exact wp_lret rfl
theorem ev_cCol_f (hC : CI A F n nb) (hR : RI A n nb) (x : Int32) : mv_Ev xs Ls 5 59 [.ref 24, .int x] (MW A B F false) (some (.long (colN n nb x (B 25, B 26) false).2.1), MW A (upB (upB B 25 (colN n nb x (B 25, B 26) false).1.1) 26 (colN n nb x (B 25, B 26) false).1.2) F (colN n nb x (B 25, B 26) false).2.2, 0, 0) := by
  refine ev_of_wp rfl rfl rfl ?_
  have hn := hC.1
  have hp := pow10 hn
  have hp1 : 1 ≤ 2 ^ n := Nat.one_le_two_pow
  have hal := all_lt hn
  refine wp_go (f' := (1, [.ref 24, .int x, .retAddr 0, .retAddr 0, .retAddr 0], [.ref 24], MW A B F false, 0, 0)) 1 rfl ?_
  refine wp_call rfl rfl rfl (ev_up (ev_cClear hC) (by decide)) ?_
  refine wp_eq (f' := (4, [.ref 24, .int x, .retAddr 0, .retAddr 0, .retAddr 0], [], MW A (upB (upB B 25 (clrN n (B 25, B 26)).1) 26 (clrN n (B 25, B 26)).2) F false, 0, 0)) rfl ?_
  refine wp_go (f' := (12, [.ref 24, .int x, .retAddr 0, .retAddr 0, .retAddr 0], [.ref 1, .ref 25], MW A (upB (upB B 25 (clrN n (B 25, B 26)).1) 26 (clrN n (B 25, B 26)).2) F false, 0, 0)) 4 rfl ?_
  refine wp_call rfl rfl rfl (ev_up (ev_gAll hC) (by decide)) ?_
  refine wp_eq (f' := (15, [.ref 24, .int x, .retAddr 0, .retAddr 0, .retAddr 0], [.int (nI (2 ^ n - 1)), .ref 25], MW A (upB (upB B 25 (clrN n (B 25, B 26)).1) 26 (clrN n (B 25, B 26)).2) F false, 0, 0)) rfl ?_
  refine wp_go (f' := (16, [.ref 24, .int x, .retAddr 0, .retAddr 0, .retAddr 0], [.long 1, .int (nI (2 ^ n - 1)), .ref 25], MW A (upB (upB B 25 (clrN n (B 25, B 26)).1) 26 (clrN n (B 25, B 26)).2) F false, 0, 0)) 1 rfl ?_
  refine wp_last rfl rfl (by omega) (by decide) ?_
  refine wp_eq (f' := (17, [.ref 24, .int x, .retAddr 0, .retAddr 0, .retAddr 0], [], MW A (upB (upB B 26 (clrN n (B 25, B 26)).2) 25 (vp_updL (clrN n (B 25, B 26)).1 (2 ^ n - 1) 1)) F false, 0, 0)) rfl ?_
  refine wp_go (f' := (22, [.ref 24, .int x, .retAddr 0, .retAddr 0, .retAddr 0], [.int (nI 0), .ref 25], MW A (upB (upB B 26 (clrN n (B 25, B 26)).2) 25 (vp_updL (clrN n (B 25, B 26)).1 (2 ^ n - 1) 1)) F false, 0, 0)) 3 rfl ?_
  refine wp_lald rfl rfl (by omega) (by decide) ?_
  refine wp_eq (f' := (23, [.ref 24, .int x, .retAddr 0, .retAddr 0, .retAddr 0], [.long ((vp_updL (clrN n (B 25, B 26)).1 (2 ^ n - 1) 1) 0)], MW A (upB (upB B 26 (clrN n (B 25, B 26)).2) 25 (vp_updL (clrN n (B 25, B 26)).1 (2 ^ n - 1) 1)) F false, 0, 0)) rfl ?_
  refine wp_go (f' := (27, [.ref 24, .int x, .long ((vp_updL (clrN n (B 25, B 26)).1 (2 ^ n - 1) 1) 0), .retAddr 0, .int (nI 0)], [], MW A (upB (upB B 26 (clrN n (B 25, B 26)).2) 25 (vp_updL (clrN n (B 25, B 26)).1 (2 ^ n - 1) 1)) F false, 0, 0)) 3 rfl ?_
  exact lq_cCol hC hR x
theorem ev_cCol_t (hC : CI A F n nb) (hR : RI A n nb) (x : Int32) : mv_Ev xs Ls 5 59 [.ref 24, .int x] (MW A B F true) (some (.long (colN n nb x (B 25, B 26) true).2.1), MW A (upB (upB B 25 (colN n nb x (B 25, B 26) true).1.1) 26 (colN n nb x (B 25, B 26) true).1.2) F (colN n nb x (B 25, B 26) true).2.2, 0, 0) := by
  refine ev_of_wp rfl rfl rfl ?_
  have hn := hC.1
  have hp := pow10 hn
  have hp1 : 1 ≤ 2 ^ n := Nat.one_le_two_pow
  have hal := all_lt hn
  refine wp_go (f' := (1, [.ref 24, .int x, .retAddr 0, .retAddr 0, .retAddr 0], [.ref 24], MW A B F true, 0, 0)) 1 rfl ?_
  refine wp_call rfl rfl rfl (ev_up (ev_cClear hC) (by decide)) ?_
  refine wp_eq (f' := (4, [.ref 24, .int x, .retAddr 0, .retAddr 0, .retAddr 0], [], MW A (upB (upB B 25 (clrN n (B 25, B 26)).1) 26 (clrN n (B 25, B 26)).2) F true, 0, 0)) rfl ?_
  refine wp_go (f' := (12, [.ref 24, .int x, .retAddr 0, .retAddr 0, .retAddr 0], [.ref 1, .ref 26], MW A (upB (upB B 25 (clrN n (B 25, B 26)).1) 26 (clrN n (B 25, B 26)).2) F true, 0, 0)) 4 rfl ?_
  refine wp_call rfl rfl rfl (ev_up (ev_gAll hC) (by decide)) ?_
  refine wp_eq (f' := (15, [.ref 24, .int x, .retAddr 0, .retAddr 0, .retAddr 0], [.int (nI (2 ^ n - 1)), .ref 26], MW A (upB (upB B 25 (clrN n (B 25, B 26)).1) 26 (clrN n (B 25, B 26)).2) F true, 0, 0)) rfl ?_
  refine wp_go (f' := (16, [.ref 24, .int x, .retAddr 0, .retAddr 0, .retAddr 0], [.long 1, .int (nI (2 ^ n - 1)), .ref 26], MW A (upB (upB B 25 (clrN n (B 25, B 26)).1) 26 (clrN n (B 25, B 26)).2) F true, 0, 0)) 1 rfl ?_
  refine wp_last rfl rfl (by omega) (by decide) ?_
  refine wp_eq (f' := (17, [.ref 24, .int x, .retAddr 0, .retAddr 0, .retAddr 0], [], MW A (upB (upB B 26 (clrN n (B 25, B 26)).2) 25 (vp_updL (clrN n (B 25, B 26)).1 (2 ^ n - 1) 1)) F true, 0, 0)) rfl ?_
  refine wp_go (f' := (22, [.ref 24, .int x, .retAddr 0, .retAddr 0, .retAddr 0], [.int (nI 0), .ref 26], MW A (upB (upB B 26 (clrN n (B 25, B 26)).2) 25 (vp_updL (clrN n (B 25, B 26)).1 (2 ^ n - 1) 1)) F true, 0, 0)) 3 rfl ?_
  refine wp_lald rfl rfl (by omega) (by decide) ?_
  refine wp_eq (f' := (23, [.ref 24, .int x, .retAddr 0, .retAddr 0, .retAddr 0], [.long ((vp_updL (clrN n (B 25, B 26)).1 (2 ^ n - 1) 1) 0)], MW A (upB (upB B 26 (clrN n (B 25, B 26)).2) 25 (vp_updL (clrN n (B 25, B 26)).1 (2 ^ n - 1) 1)) F true, 0, 0)) rfl ?_
  refine wp_go (f' := (27, [.ref 24, .int x, .long ((vp_updL (clrN n (B 25, B 26)).1 (2 ^ n - 1) 1) 0), .retAddr 0, .int (nI 0)], [], MW A (upB (upB B 26 (clrN n (B 25, B 26)).2) 25 (vp_updL (clrN n (B 25, B 26)).1 (2 ^ n - 1) 1)) F true, 0, 0)) 3 rfl ?_
  exact lq_cCol hC hR x
theorem ev_cCol (hC : CI A F n nb) (hR : RI A n nb) (x : Int32) : mv_Ev xs Ls 5 59 [.ref 24, .int x] (MW A B F sw) (some (.long (colN n nb x (B 25, B 26) sw).2.1), MW A (upB (upB B 25 (colN n nb x (B 25, B 26) sw).1.1) 26 (colN n nb x (B 25, B 26) sw).1.2) F (colN n nb x (B 25, B 26) sw).2.2, 0, 0) := by
  cases sw
  · exact ev_cCol_f hC hR x
  · exact ev_cCol_t hC hR x
end CC
