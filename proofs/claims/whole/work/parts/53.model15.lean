/-! colourings of the reference -/
def coI (n : Nat) (nb : Nat → Nat) (q : (Nat → Int64) × (Nat → Int64)) : (Nat → Int64) × (Nat → Int64) := forN (fun k q => (vp_updL q.1 k (if ¬ k = 0 ∧ apartN n nb k = true then 1 else 0), vp_updL q.2 k (if k = 0 then 1 else 0))) (2 ^ n) q
def pullG (h f : Nat → Int64) (s : Nat) : Int64 := subN (fun t a => a + (if t.testBit (low s) then h t * f (sd s t) else 0)) s s 0
def desF (h : Nat → Int64) : Nat → (Nat → Int64) → (Nat → Int64)
  | 0, f => f
  | t + 1, f => desF h t (vp_updL f t (pullG h f t))
def coR (n : Nat) (x : Int32) (h : Nat → Int64) : Nat → ((Nat → Int64) × Int64 × Int64) → ((Nat → Int64) × Int64 × Int64) := fun k q => (desF h (2 ^ n) q.1, q.2.1 + q.1 (2 ^ n - 1) * q.2.2, q.2.2 * (x - nI k).toInt64)
def coN (n : Nat) (nb : Nat → Nat) (x : Int32) (q : (Nat → Int64) × (Nat → Int64)) : (Nat → Int64) × Int64 × Int64 := forN (coR n x (coI n nb q).1) (n + 1) ((coI n nb q).2, 0, 1)
section MM
variable {xs : Nat → Int32} {Ls : Nat} {A : Nat → Nat → Int32} {B : Nat → Nat → Int64} {F : Nat → Int32} {sw : Bool} {n : Nat} {nb : Nat → Nat}
theorem lp_col (hM : MI A F n nb) {x : Int32} {sm fl : Int64} {k : Nat} {h : Nat → Int64} {r : mv_R} : ∀ (t : Nat) (f : Nat → Int64), t ≤ 2 ^ n → (∀ e8 e9 e10 : Value, mv_Wp xs Ls 3 6 false (some .long) mv_c121 (196, [.ref 28, .int x, .long sm, .retAddr 0, .long fl, .retAddr 0, .int (nI k), .int (-1), e8, e9, e10], [], MW A (upB (upB B 39 h) 38 (desF h t f)) F sw, 0, 0) r) → ∀ e8 e9 e10 : Value, mv_Wp xs Ls 3 6 false (some .long) mv_c121 (109, [.ref 28, .int x, .long sm, .retAddr 0, .long fl, .retAddr 0, .int (nI k), .int ((nI t) + (-1)), e8, e9, e10], [], MW A (upB (upB B 39 h) 38 f) F sw, 0, 0) r := by
  have hn := hM.1
  have hp := pow10 hn
  have hp1 : 1 ≤ 2 ^ n := Nat.one_le_two_pow
  have hal := all_lt hn
  intro t
  induction t with
  | zero =>
    intro f ht hex e8 e9 e10
    rw [show nI 0 + (-1) = (-1 : Int32) by decide]
    refine wp_go (f' := ((if (-1) < 0 then 196 else 114), [.ref 28, .int x, .long sm, .retAddr 0, .long fl, .retAddr 0, .int (nI k), .int (-1), e8, e9, e10], [], MW A (upB (upB B 39 h) 38 f) F sw, 0, 0)) 2 rfl ?_
    refine wp_ite (fun _ => ?_) (fun h9 => absurd (by decide : (-1 : Int32) < 0) h9)
    exact hex _ _ _
  | succ s ih =>
    intro f ht hex e8 e9 e10
    rw [pk_m1]
    refine wp_go (f' := ((if (nI s) < 0 then 196 else 114), [.ref 28, .int x, .long sm, .retAddr 0, .long fl, .retAddr 0, .int (nI k), .int (nI s), e8, e9, e10], [], MW A (upB (upB B 39 h) 38 f) F sw, 0, 0)) 2 rfl ?_
    refine wp_ite (fun h9 => absurd h9 (nI_pos (n := s) (by omega))) (fun _ => ?_)
    refine wp_go (f' := (121, [.ref 28, .int x, .long sm, .retAddr 0, .long fl, .retAddr 0, .int (nI k), .int (nI s), .long 0, .retAddr 0, .int (nI s)], [], MW A (upB (upB B 39 h) 38 f) F sw, 0, 0)) 4 rfl ?_
    refine sub_ind (P := fun (t : Nat) (a : Int64) => t ≤ s → mv_Wp xs Ls 3 6 false (some .long) mv_c121 (121, [.ref 28, .int x, .long sm, .retAddr 0, .long fl, .retAddr 0, .int (nI k), .int (nI s), .long a, .retAddr 0, .int (nI t)], [], MW A (upB (upB B 39 h) 38 f) F sw, 0, 0) r) (f := fun t a => a + (if t.testBit (low s) then h t * f (sd s t) else 0)) (s := s) ?_ s 0 (by omega) ?_ (Nat.le_refl _)
    · intro t a ht3 ht0 ih3 hin
      have htm : (t - 1) &&& s ≤ t - 1 := Nat.and_le_left
      have hsd := sd_le (a := s) (b := t)
      have hls := low_lt (s := s) (by omega) (by omega)
      refine wp_go (f' := ((if (nI t) ≤ 0 then 181 else 126), [.ref 28, .int x, .long sm, .retAddr 0, .long fl, .retAddr 0, .int (nI k), .int (nI s), .long a, .retAddr 0, .int (nI t)], [], MW A (upB (upB B 39 h) 38 f) F sw, 0, 0)) 2 rfl ?_
      refine wp_ite (fun h9 => absurd h9 (fun h8 => ht0 (by have h7 := (nI_leI (a := t) (b := 0) (by omega) (by omega)).mp h8; omega))) (fun _ => ?_)
      refine wp_go (f' := (132, [.ref 28, .int x, .long sm, .retAddr 0, .long fl, .retAddr 0, .int (nI k), .int (nI s), .long a, .retAddr 0, .int (nI t)], [.int (nI s), .int (nI t), .long a], MW A (upB (upB B 39 h) 38 f) F sw, 0, 0)) 3 rfl ?_
      refine wp_call rfl rfl rfl (ev_up (ev_lowest (s := s) (by omega) (by omega) _) (by decide)) ?_
      refine wp_eq (f' := (135, [.ref 28, .int x, .long sm, .retAddr 0, .long fl, .retAddr 0, .int (nI k), .int (nI s), .long a, .retAddr 0, .int (nI t)], [.int (nI (low s)), .int (nI t), .long a], MW A (upB (upB B 39 h) 38 f) F sw, 0, 0)) rfl ?_
      have hlw := low_lt (s := s) (by omega) (by omega)
      refine wp_go (f' := (138, [.ref 28, .int x, .long sm, .retAddr 0, .long fl, .retAddr 0, .int (nI k), .int (nI s), .long a, .retAddr 0, .int (nI t)], [.int (((nI t) >>> ((nI (low s)) &&& 31)) &&& (nI 1)), .long a], MW A (upB (upB B 39 h) 38 f) F sw, 0, 0)) 3 rfl ?_
      rw [bx_bit (by omega) (by omega)]
      refine wp_go (f' := ((if ¬ (bI (t.testBit (low s))) = (nI 1) then 165 else 142), [.ref 28, .int x, .long sm, .retAddr 0, .long fl, .retAddr 0, .int (nI k), .int (nI s), .long a, .retAddr 0, .int (nI t)], [.long a], MW A (upB (upB B 39 h) 38 f) F sw, 0, 0)) 2 rfl ?_
      refine wp_ite (fun h1 => ?_) (fun h1 => ?_)
      · have h1 := bI_n1 h1
        refine wp_go (f' := (173, [.ref 28, .int x, .long sm, .retAddr 0, .long fl, .retAddr 0, .int (nI k), .int (nI s), .long (a + 0), .retAddr 0, .int (nI t)], [.int ((nI t) - (nI 1))], MW A (upB (upB B 39 h) 38 f) F sw, 0, 0)) 6 rfl ?_
        rw [pk_sub (by omega)]
        refine wp_go (f' := (176, [.ref 28, .int x, .long sm, .retAddr 0, .long fl, .retAddr 0, .int (nI k), .int (nI s), .long (a + 0), .retAddr 0, .int (nI t)], [.int ((nI (t - 1)) &&& (nI s))], MW A (upB (upB B 39 h) 38 f) F sw, 0, 0)) 2 rfl ?_
        rw [bx_and]
        refine wp_go (f' := (121, [.ref 28, .int x, .long sm, .retAddr 0, .long fl, .retAddr 0, .int (nI k), .int (nI s), .long (a + 0), .retAddr 0, .int (nI ((t - 1) &&& s))], [], MW A (upB (upB B 39 h) 38 f) F sw, 0, 0)) 2 rfl ?_
        refine wp_eq ?_ (ih3 (by omega))
        simp [h1]
      · have h1 := Classical.not_not.mp h1; have h1 := bI_1.mp h1
        refine wp_go (f' := (148, [.ref 28, .int x, .long sm, .retAddr 0, .long fl, .retAddr 0, .int (nI k), .int (nI s), .long a, .retAddr 0, .int (nI t)], [.int (nI t), .ref 39, .long a], MW A (upB (upB B 39 h) 38 f) F sw, 0, 0)) 3 rfl ?_
        refine wp_lald rfl rfl (by omega) (by decide) ?_
        refine wp_eq (f' := (149, [.ref 28, .int x, .long sm, .retAddr 0, .long fl, .retAddr 0, .int (nI k), .int (nI s), .long a, .retAddr 0, .int (nI t)], [.long (h t), .long a], MW A (upB (upB B 39 h) 38 f) F sw, 0, 0)) rfl ?_
        refine wp_go (f' := (160, [.ref 28, .int x, .long sm, .retAddr 0, .long fl, .retAddr 0, .int (nI k), .int (nI s), .long a, .retAddr 0, .int (nI t)], [.int ((nI s) &&& ((nI t) ^^^ (-1))), .ref 38, .long (h t), .long a], MW A (upB (upB B 39 h) 38 f) F sw, 0, 0)) 7 rfl ?_
        rw [bx_sd (by omega)]
        refine wp_lald rfl rfl (by omega) (by decide) ?_
        refine wp_eq (f' := (161, [.ref 28, .int x, .long sm, .retAddr 0, .long fl, .retAddr 0, .int (nI k), .int (nI s), .long a, .retAddr 0, .int (nI t)], [.long (f (sd s t)), .long (h t), .long a], MW A (upB (upB B 39 h) 38 f) F sw, 0, 0)) rfl ?_
        refine wp_go (f' := (173, [.ref 28, .int x, .long sm, .retAddr 0, .long fl, .retAddr 0, .int (nI k), .int (nI s), .long (a + ((h t) * (f (sd s t)))), .retAddr 0, .int (nI t)], [.int ((nI t) - (nI 1))], MW A (upB (upB B 39 h) 38 f) F sw, 0, 0)) 7 rfl ?_
        rw [pk_sub (by omega)]
        refine wp_go (f' := (176, [.ref 28, .int x, .long sm, .retAddr 0, .long fl, .retAddr 0, .int (nI k), .int (nI s), .long (a + ((h t) * (f (sd s t)))), .retAddr 0, .int (nI t)], [.int ((nI (t - 1)) &&& (nI s))], MW A (upB (upB B 39 h) 38 f) F sw, 0, 0)) 2 rfl ?_
        rw [bx_and]
        refine wp_go (f' := (121, [.ref 28, .int x, .long sm, .retAddr 0, .long fl, .retAddr 0, .int (nI k), .int (nI s), .long (a + ((h t) * (f (sd s t)))), .retAddr 0, .int (nI ((t - 1) &&& s))], [], MW A (upB (upB B 39 h) 38 f) F sw, 0, 0)) 2 rfl ?_
        refine wp_eq ?_ (ih3 (by omega))
        simp [h1]
    · intro hin
      refine wp_go (f' := ((if (nI 0) ≤ 0 then 181 else 126), [.ref 28, .int x, .long sm, .retAddr 0, .long fl, .retAddr 0, .int (nI k), .int (nI s), .long (pullG h f s), .retAddr 0, .int (nI 0)], [], MW A (upB (upB B 39 h) 38 f) F sw, 0, 0)) 2 rfl ?_
      refine wp_ite (fun _ => ?_) (fun h9 => absurd (by decide : nI 0 ≤ 0) h9)
      refine wp_go (f' := (189, [.ref 28, .int x, .long sm, .retAddr 0, .long fl, .retAddr 0, .int (nI k), .int (nI s), .long (pullG h f s), .retAddr 0, .int (nI 0)], [.long (pullG h f s), .int (nI s), .ref 38], MW A (upB (upB B 39 h) 38 f) F sw, 0, 0)) 4 rfl ?_
      refine wp_last rfl rfl (by omega) (by decide) ?_
      refine wp_eq (f' := (190, [.ref 28, .int x, .long sm, .retAddr 0, .long fl, .retAddr 0, .int (nI k), .int (nI s), .long (pullG h f s), .retAddr 0, .int (nI 0)], [], MW A (upB (upB B 39 h) 38 (vp_updL f s (pullG h f s))) F sw, 0, 0)) rfl ?_
      refine wp_go (f' := (109, [.ref 28, .int x, .long sm, .retAddr 0, .long fl, .retAddr 0, .int (nI k), .int ((nI s) + (-1)), .long (pullG h f s), .retAddr 0, .int (nI 0)], [], MW A (upB (upB B 39 h) 38 (vp_updL f s (pullG h f s))) F sw, 0, 0)) 2 rfl ?_
      exact ih _ (by omega) hex _ _ _
theorem ev_colours (hM : MI A F n nb) (x : Int32) : mv_Ev xs Ls 4 121 [.ref 28, .int x] (MW A B F sw) (some (.long (coN n nb x (B 39, B 38)).2.1), MW A (upB (upB B 39 (coI n nb (B 39, B 38)).1) 38 (coN n nb x (B 39, B 38)).1) F sw, 0, 0) := by
  refine ev_of_wp rfl rfl rfl ?_
  have hn := hM.1
  have hp := pow10 hn
  have hp1 : 1 ≤ 2 ^ n := Nat.one_le_two_pow
  have hal := all_lt hn
  refine wp_go (f' := (5, [.ref 28, .int x, .long 0, .retAddr 0, .int (nI 0), .retAddr 0, .retAddr 0, .retAddr 0, .retAddr 0, .retAddr 0, .retAddr 0], [], MW A B F sw, 0, 0)) 4 rfl ?_
  refine wp_eq (f' := (5, [.ref 28, .int x, .long 0, .retAddr 0, .int (nI 0), .retAddr 0, .retAddr 0, .retAddr 0, .retAddr 0, .retAddr 0, .retAddr 0], [], MW A (upB (upB B 39 (B 39)) 38 (B 38)) F sw, 0, 0)) rfl ?_
  refine for_ind (P := fun (k : Nat) (q : (Nat → Int64) × (Nat → Int64)) => mv_Wp xs Ls 3 6 false (some .long) mv_c121 (5, [.ref 28, .int x, .long 0, .retAddr 0, .int (nI k), .retAddr 0, .retAddr 0, .retAddr 0, .retAddr 0, .retAddr 0, .retAddr 0], [], MW A (upB (upB B 39 q.1) 38 q.2) F sw, 0, 0) (some (.long (coN n nb x (B 39, B 38)).2.1), MW A (upB (upB B 39 (coI n nb (B 39, B 38)).1) 38 (coN n nb x (B 39, B 38)).1) F sw, 0, 0)) (f := fun k q => (vp_updL q.1 k (if ¬ k = 0 ∧ apartN n nb k = true then 1 else 0), vp_updL q.2 k (if k = 0 then 1 else 0))) (n := 2 ^ n) ?_ (2 ^ n) (B 39, B 38) (Nat.le_refl _) ?_
  · intro k q hk ih
    refine wp_go (f' := (8, [.ref 28, .int x, .long 0, .retAddr 0, .int (nI k), .retAddr 0, .retAddr 0, .retAddr 0, .retAddr 0, .retAddr 0, .retAddr 0], [.ref 28, .int (nI k)], MW A (upB (upB B 39 q.1) 38 q.2) F sw, 0, 0)) 2 rfl ?_
    refine wp_call rfl rfl rfl (ev_up (ev_all hM) (by decide)) ?_
    refine wp_eq (f' := (11, [.ref 28, .int x, .long 0, .retAddr 0, .int (nI k), .retAddr 0, .retAddr 0, .retAddr 0, .retAddr 0, .retAddr 0, .retAddr 0], [.int (nI (2 ^ n - 1)), .int (nI k)], MW A (upB (upB B 39 q.1) 38 q.2) F sw, 0, 0)) rfl ?_
    refine wp_go (f' := ((if (nI (2 ^ n - 1)) < (nI k) then 63 else 14), [.ref 28, .int x, .long 0, .retAddr 0, .int (nI k), .retAddr 0, .retAddr 0, .retAddr 0, .retAddr 0, .retAddr 0, .retAddr 0], [], MW A (upB (upB B 39 q.1) 38 q.2) F sw, 0, 0)) 1 rfl ?_
    refine wp_ite (fun h9 => absurd h9 (nI_nlt (by omega) (by omega))) (fun _ => ?_)
    refine wp_go (f' := ((if (nI k) = 0 then 38 else 25), [.ref 28, .int x, .long 0, .retAddr 0, .int (nI k), .retAddr 0, .retAddr 0, .retAddr 0, .retAddr 0, .retAddr 0, .retAddr 0], [.int (nI k), .ref 39], MW A (upB (upB B 39 q.1) 38 q.2) F sw, 0, 0)) 5 rfl ?_
    refine wp_ite (fun h1 => ?_) (fun h1 => ?_)
    · have h1 : k = 0 := (nI_eq (a := k) (b := 0) (by omega) (by omega)).mp h1
      refine wp_go (f' := (39, [.ref 28, .int x, .long 0, .retAddr 0, .int (nI k), .retAddr 0, .retAddr 0, .retAddr 0, .retAddr 0, .retAddr 0, .retAddr 0], [.long 0, .int (nI k), .ref 39], MW A (upB (upB B 39 q.1) 38 q.2) F sw, 0, 0)) 1 rfl ?_
      refine wp_last rfl rfl (by omega) (by decide) ?_
      refine wp_eq (f' := (40, [.ref 28, .int x, .long 0, .retAddr 0, .int (nI k), .retAddr 0, .retAddr 0, .retAddr 0, .retAddr 0, .retAddr 0, .retAddr 0], [], MW A (upB (upB B 38 q.2) 39 (vp_updL q.1 k 0)) F sw, 0, 0)) rfl ?_
      refine wp_go (f' := ((if ¬ (nI k) = 0 then 55 else 51), [.ref 28, .int x, .long 0, .retAddr 0, .int (nI k), .retAddr 0, .retAddr 0, .retAddr 0, .retAddr 0, .retAddr 0, .retAddr 0], [.int (nI k), .ref 38], MW A (upB (upB B 38 q.2) 39 (vp_updL q.1 k 0)) F sw, 0, 0)) 5 rfl ?_
      refine wp_ite (fun h2 => ?_) (fun h2 => ?_)
      · have h2 : ¬ (k = 0) := fun h9 => h2 ((nI_eq (a := k) (b := 0) (by omega) (by omega)).mpr h9)
        refine wp_go (f' := (56, [.ref 28, .int x, .long 0, .retAddr 0, .int (nI k), .retAddr 0, .retAddr 0, .retAddr 0, .retAddr 0, .retAddr 0, .retAddr 0], [.long 0, .int (nI k), .ref 38], MW A (upB (upB B 38 q.2) 39 (vp_updL q.1 k 0)) F sw, 0, 0)) 1 rfl ?_
        refine wp_last rfl rfl (by omega) (by decide) ?_
        refine wp_eq (f' := (57, [.ref 28, .int x, .long 0, .retAddr 0, .int (nI k), .retAddr 0, .retAddr 0, .retAddr 0, .retAddr 0, .retAddr 0, .retAddr 0], [], MW A (upB (upB B 39 (vp_updL q.1 k 0)) 38 (vp_updL q.2 k 0)) F sw, 0, 0)) rfl ?_
        refine wp_go (f' := (60, [.ref 28, .int x, .long 0, .retAddr 0, .int ((nI k) + 1), .retAddr 0, .retAddr 0, .retAddr 0, .retAddr 0, .retAddr 0, .retAddr 0], [], MW A (upB (upB B 39 (vp_updL q.1 k 0)) 38 (vp_updL q.2 k 0)) F sw, 0, 0)) 1 rfl ?_
        rw [nI_1]
        refine wp_go (f' := (5, [.ref 28, .int x, .long 0, .retAddr 0, .int (nI (k + 1)), .retAddr 0, .retAddr 0, .retAddr 0, .retAddr 0, .retAddr 0, .retAddr 0], [], MW A (upB (upB B 39 (vp_updL q.1 k 0)) 38 (vp_updL q.2 k 0)) F sw, 0, 0)) 1 rfl ?_
        have e1 : (if ¬ k = 0 ∧ apartN n nb k = true then (1 : Int64) else 0) = 0 := by first | (exfalso; omega) | simp [h1, h2]
        have e2 : (if k = 0 then (1 : Int64) else 0) = 0 := by first | (exfalso; omega) | simp [h1, h2]
        rw [e1, e2] at ih
        exact ih
      · have h2 := Classical.not_not.mp h2; have h2 : k = 0 := (nI_eq (a := k) (b := 0) (by omega) (by omega)).mp h2
        refine wp_go (f' := (56, [.ref 28, .int x, .long 0, .retAddr 0, .int (nI k), .retAddr 0, .retAddr 0, .retAddr 0, .retAddr 0, .retAddr 0, .retAddr 0], [.long 1, .int (nI k), .ref 38], MW A (upB (upB B 38 q.2) 39 (vp_updL q.1 k 0)) F sw, 0, 0)) 2 rfl ?_
        refine wp_last rfl rfl (by omega) (by decide) ?_
        refine wp_eq (f' := (57, [.ref 28, .int x, .long 0, .retAddr 0, .int (nI k), .retAddr 0, .retAddr 0, .retAddr 0, .retAddr 0, .retAddr 0, .retAddr 0], [], MW A (upB (upB B 39 (vp_updL q.1 k 0)) 38 (vp_updL q.2 k 1)) F sw, 0, 0)) rfl ?_
        refine wp_go (f' := (60, [.ref 28, .int x, .long 0, .retAddr 0, .int ((nI k) + 1), .retAddr 0, .retAddr 0, .retAddr 0, .retAddr 0, .retAddr 0, .retAddr 0], [], MW A (upB (upB B 39 (vp_updL q.1 k 0)) 38 (vp_updL q.2 k 1)) F sw, 0, 0)) 1 rfl ?_
        rw [nI_1]
        refine wp_go (f' := (5, [.ref 28, .int x, .long 0, .retAddr 0, .int (nI (k + 1)), .retAddr 0, .retAddr 0, .retAddr 0, .retAddr 0, .retAddr 0, .retAddr 0], [], MW A (upB (upB B 39 (vp_updL q.1 k 0)) 38 (vp_updL q.2 k 1)) F sw, 0, 0)) 1 rfl ?_
        have e1 : (if ¬ k = 0 ∧ apartN n nb k = true then (1 : Int64) else 0) = 0 := by first | (exfalso; omega) | simp [h1, h2]
        have e2 : (if k = 0 then (1 : Int64) else 0) = 1 := by first | (exfalso; omega) | simp [h1, h2]
        rw [e1, e2] at ih
        exact ih
    · have h1 : ¬ (k = 0) := fun h9 => h1 ((nI_eq (a := k) (b := 0) (by omega) (by omega)).mpr h9)
      refine wp_go (f' := (28, [.ref 28, .int x, .long 0, .retAddr 0, .int (nI k), .retAddr 0, .retAddr 0, .retAddr 0, .retAddr 0, .retAddr 0, .retAddr 0], [.int (nI k), .ref 28, .int (nI k), .ref 39], MW A (upB (upB B 39 q.1) 38 q.2) F sw, 0, 0)) 2 rfl ?_
      refine wp_call rfl rfl rfl (ev_up (ev_isApart hM (s := k) (by omega)) (by decide)) ?_
      refine wp_eq (f' := (31, [.ref 28, .int x, .long 0, .retAddr 0, .int (nI k), .retAddr 0, .retAddr 0, .retAddr 0, .retAddr 0, .retAddr 0, .retAddr 0], [.int (bI (apartN n nb k)), .int (nI k), .ref 39], MW A (upB (upB B 39 q.1) 38 q.2) F sw, 0, 0)) rfl ?_
      refine wp_go (f' := ((if (bI (apartN n nb k)) = 0 then 38 else 34), [.ref 28, .int x, .long 0, .retAddr 0, .int (nI k), .retAddr 0, .retAddr 0, .retAddr 0, .retAddr 0, .retAddr 0, .retAddr 0], [.int (nI k), .ref 39], MW A (upB (upB B 39 q.1) 38 q.2) F sw, 0, 0)) 1 rfl ?_
      refine wp_ite (fun h3 => ?_) (fun h3 => ?_)
      · have h3 := bI_0.mp h3
        refine wp_go (f' := (39, [.ref 28, .int x, .long 0, .retAddr 0, .int (nI k), .retAddr 0, .retAddr 0, .retAddr 0, .retAddr 0, .retAddr 0, .retAddr 0], [.long 0, .int (nI k), .ref 39], MW A (upB (upB B 39 q.1) 38 q.2) F sw, 0, 0)) 1 rfl ?_
        refine wp_last rfl rfl (by omega) (by decide) ?_
        refine wp_eq (f' := (40, [.ref 28, .int x, .long 0, .retAddr 0, .int (nI k), .retAddr 0, .retAddr 0, .retAddr 0, .retAddr 0, .retAddr 0, .retAddr 0], [], MW A (upB (upB B 38 q.2) 39 (vp_updL q.1 k 0)) F sw, 0, 0)) rfl ?_
        refine wp_go (f' := ((if ¬ (nI k) = 0 then 55 else 51), [.ref 28, .int x, .long 0, .retAddr 0, .int (nI k), .retAddr 0, .retAddr 0, .retAddr 0, .retAddr 0, .retAddr 0, .retAddr 0], [.int (nI k), .ref 38], MW A (upB (upB B 38 q.2) 39 (vp_updL q.1 k 0)) F sw, 0, 0)) 5 rfl ?_
        refine wp_ite (fun h4 => ?_) (fun h4 => ?_)
        · have h4 : ¬ (k = 0) := fun h9 => h4 ((nI_eq (a := k) (b := 0) (by omega) (by omega)).mpr h9)
          refine wp_go (f' := (56, [.ref 28, .int x, .long 0, .retAddr 0, .int (nI k), .retAddr 0, .retAddr 0, .retAddr 0, .retAddr 0, .retAddr 0, .retAddr 0], [.long 0, .int (nI k), .ref 38], MW A (upB (upB B 38 q.2) 39 (vp_updL q.1 k 0)) F sw, 0, 0)) 1 rfl ?_
          refine wp_last rfl rfl (by omega) (by decide) ?_
          refine wp_eq (f' := (57, [.ref 28, .int x, .long 0, .retAddr 0, .int (nI k), .retAddr 0, .retAddr 0, .retAddr 0, .retAddr 0, .retAddr 0, .retAddr 0], [], MW A (upB (upB B 39 (vp_updL q.1 k 0)) 38 (vp_updL q.2 k 0)) F sw, 0, 0)) rfl ?_
          refine wp_go (f' := (60, [.ref 28, .int x, .long 0, .retAddr 0, .int ((nI k) + 1), .retAddr 0, .retAddr 0, .retAddr 0, .retAddr 0, .retAddr 0, .retAddr 0], [], MW A (upB (upB B 39 (vp_updL q.1 k 0)) 38 (vp_updL q.2 k 0)) F sw, 0, 0)) 1 rfl ?_
          rw [nI_1]
          refine wp_go (f' := (5, [.ref 28, .int x, .long 0, .retAddr 0, .int (nI (k + 1)), .retAddr 0, .retAddr 0, .retAddr 0, .retAddr 0, .retAddr 0, .retAddr 0], [], MW A (upB (upB B 39 (vp_updL q.1 k 0)) 38 (vp_updL q.2 k 0)) F sw, 0, 0)) 1 rfl ?_
          have e1 : (if ¬ k = 0 ∧ apartN n nb k = true then (1 : Int64) else 0) = 0 := by first | (exfalso; omega) | simp [h1, h3, h4]
          have e2 : (if k = 0 then (1 : Int64) else 0) = 0 := by first | (exfalso; omega) | simp [h1, h3, h4]
          rw [e1, e2] at ih
          exact ih
        · have h4 := Classical.not_not.mp h4; have h4 : k = 0 := (nI_eq (a := k) (b := 0) (by omega) (by omega)).mp h4
          refine wp_go (f' := (56, [.ref 28, .int x, .long 0, .retAddr 0, .int (nI k), .retAddr 0, .retAddr 0, .retAddr 0, .retAddr 0, .retAddr 0, .retAddr 0], [.long 1, .int (nI k), .ref 38], MW A (upB (upB B 38 q.2) 39 (vp_updL q.1 k 0)) F sw, 0, 0)) 2 rfl ?_
          refine wp_last rfl rfl (by omega) (by decide) ?_
          refine wp_eq (f' := (57, [.ref 28, .int x, .long 0, .retAddr 0, .int (nI k), .retAddr 0, .retAddr 0, .retAddr 0, .retAddr 0, .retAddr 0, .retAddr 0], [], MW A (upB (upB B 39 (vp_updL q.1 k 0)) 38 (vp_updL q.2 k 1)) F sw, 0, 0)) rfl ?_
          refine wp_go (f' := (60, [.ref 28, .int x, .long 0, .retAddr 0, .int ((nI k) + 1), .retAddr 0, .retAddr 0, .retAddr 0, .retAddr 0, .retAddr 0, .retAddr 0], [], MW A (upB (upB B 39 (vp_updL q.1 k 0)) 38 (vp_updL q.2 k 1)) F sw, 0, 0)) 1 rfl ?_
          rw [nI_1]
          refine wp_go (f' := (5, [.ref 28, .int x, .long 0, .retAddr 0, .int (nI (k + 1)), .retAddr 0, .retAddr 0, .retAddr 0, .retAddr 0, .retAddr 0, .retAddr 0], [], MW A (upB (upB B 39 (vp_updL q.1 k 0)) 38 (vp_updL q.2 k 1)) F sw, 0, 0)) 1 rfl ?_
          have e1 : (if ¬ k = 0 ∧ apartN n nb k = true then (1 : Int64) else 0) = 0 := by first | (exfalso; omega) | simp [h1, h3, h4]
          have e2 : (if k = 0 then (1 : Int64) else 0) = 1 := by first | (exfalso; omega) | simp [h1, h3, h4]
          rw [e1, e2] at ih
          exact ih
      · have h3 := bI_n0 h3
        refine wp_go (f' := (39, [.ref 28, .int x, .long 0, .retAddr 0, .int (nI k), .retAddr 0, .retAddr 0, .retAddr 0, .retAddr 0, .retAddr 0, .retAddr 0], [.long 1, .int (nI k), .ref 39], MW A (upB (upB B 39 q.1) 38 q.2) F sw, 0, 0)) 2 rfl ?_
        refine wp_last rfl rfl (by omega) (by decide) ?_
        refine wp_eq (f' := (40, [.ref 28, .int x, .long 0, .retAddr 0, .int (nI k), .retAddr 0, .retAddr 0, .retAddr 0, .retAddr 0, .retAddr 0, .retAddr 0], [], MW A (upB (upB B 38 q.2) 39 (vp_updL q.1 k 1)) F sw, 0, 0)) rfl ?_
        refine wp_go (f' := ((if ¬ (nI k) = 0 then 55 else 51), [.ref 28, .int x, .long 0, .retAddr 0, .int (nI k), .retAddr 0, .retAddr 0, .retAddr 0, .retAddr 0, .retAddr 0, .retAddr 0], [.int (nI k), .ref 38], MW A (upB (upB B 38 q.2) 39 (vp_updL q.1 k 1)) F sw, 0, 0)) 5 rfl ?_
        refine wp_ite (fun h5 => ?_) (fun h5 => ?_)
        · have h5 : ¬ (k = 0) := fun h9 => h5 ((nI_eq (a := k) (b := 0) (by omega) (by omega)).mpr h9)
          refine wp_go (f' := (56, [.ref 28, .int x, .long 0, .retAddr 0, .int (nI k), .retAddr 0, .retAddr 0, .retAddr 0, .retAddr 0, .retAddr 0, .retAddr 0], [.long 0, .int (nI k), .ref 38], MW A (upB (upB B 38 q.2) 39 (vp_updL q.1 k 1)) F sw, 0, 0)) 1 rfl ?_
          refine wp_last rfl rfl (by omega) (by decide) ?_
          refine wp_eq (f' := (57, [.ref 28, .int x, .long 0, .retAddr 0, .int (nI k), .retAddr 0, .retAddr 0, .retAddr 0, .retAddr 0, .retAddr 0, .retAddr 0], [], MW A (upB (upB B 39 (vp_updL q.1 k 1)) 38 (vp_updL q.2 k 0)) F sw, 0, 0)) rfl ?_
          refine wp_go (f' := (60, [.ref 28, .int x, .long 0, .retAddr 0, .int ((nI k) + 1), .retAddr 0, .retAddr 0, .retAddr 0, .retAddr 0, .retAddr 0, .retAddr 0], [], MW A (upB (upB B 39 (vp_updL q.1 k 1)) 38 (vp_updL q.2 k 0)) F sw, 0, 0)) 1 rfl ?_
          rw [nI_1]
          refine wp_go (f' := (5, [.ref 28, .int x, .long 0, .retAddr 0, .int (nI (k + 1)), .retAddr 0, .retAddr 0, .retAddr 0, .retAddr 0, .retAddr 0, .retAddr 0], [], MW A (upB (upB B 39 (vp_updL q.1 k 1)) 38 (vp_updL q.2 k 0)) F sw, 0, 0)) 1 rfl ?_
          have e1 : (if ¬ k = 0 ∧ apartN n nb k = true then (1 : Int64) else 0) = 1 := by first | (exfalso; omega) | simp [h1, h3, h5]
          have e2 : (if k = 0 then (1 : Int64) else 0) = 0 := by first | (exfalso; omega) | simp [h1, h3, h5]
          rw [e1, e2] at ih
          exact ih
        · have h5 := Classical.not_not.mp h5; have h5 : k = 0 := (nI_eq (a := k) (b := 0) (by omega) (by omega)).mp h5
          refine wp_go (f' := (56, [.ref 28, .int x, .long 0, .retAddr 0, .int (nI k), .retAddr 0, .retAddr 0, .retAddr 0, .retAddr 0, .retAddr 0, .retAddr 0], [.long 1, .int (nI k), .ref 38], MW A (upB (upB B 38 q.2) 39 (vp_updL q.1 k 1)) F sw, 0, 0)) 2 rfl ?_
          refine wp_last rfl rfl (by omega) (by decide) ?_
          refine wp_eq (f' := (57, [.ref 28, .int x, .long 0, .retAddr 0, .int (nI k), .retAddr 0, .retAddr 0, .retAddr 0, .retAddr 0, .retAddr 0, .retAddr 0], [], MW A (upB (upB B 39 (vp_updL q.1 k 1)) 38 (vp_updL q.2 k 1)) F sw, 0, 0)) rfl ?_
          refine wp_go (f' := (60, [.ref 28, .int x, .long 0, .retAddr 0, .int ((nI k) + 1), .retAddr 0, .retAddr 0, .retAddr 0, .retAddr 0, .retAddr 0, .retAddr 0], [], MW A (upB (upB B 39 (vp_updL q.1 k 1)) 38 (vp_updL q.2 k 1)) F sw, 0, 0)) 1 rfl ?_
          rw [nI_1]
          refine wp_go (f' := (5, [.ref 28, .int x, .long 0, .retAddr 0, .int (nI (k + 1)), .retAddr 0, .retAddr 0, .retAddr 0, .retAddr 0, .retAddr 0, .retAddr 0], [], MW A (upB (upB B 39 (vp_updL q.1 k 1)) 38 (vp_updL q.2 k 1)) F sw, 0, 0)) 1 rfl ?_
          have e1 : (if ¬ k = 0 ∧ apartN n nb k = true then (1 : Int64) else 0) = 1 := by first | (exfalso; omega) | simp [h1, h3, h5]
          have e2 : (if k = 0 then (1 : Int64) else 0) = 1 := by first | (exfalso; omega) | simp [h1, h3, h5]
          rw [e1, e2] at ih
          exact ih
  · skip
    refine wp_go (f' := (8, [.ref 28, .int x, .long 0, .retAddr 0, .int (nI (2 ^ n)), .retAddr 0, .retAddr 0, .retAddr 0, .retAddr 0, .retAddr 0, .retAddr 0], [.ref 28, .int (nI (2 ^ n))], MW A (upB (upB B 39 (coI n nb (B 39, B 38)).1) 38 (coI n nb (B 39, B 38)).2) F sw, 0, 0)) 2 rfl ?_
    refine wp_call rfl rfl rfl (ev_up (ev_all hM) (by decide)) ?_
    refine wp_eq (f' := (11, [.ref 28, .int x, .long 0, .retAddr 0, .int (nI (2 ^ n)), .retAddr 0, .retAddr 0, .retAddr 0, .retAddr 0, .retAddr 0, .retAddr 0], [.int (nI (2 ^ n - 1)), .int (nI (2 ^ n))], MW A (upB (upB B 39 (coI n nb (B 39, B 38)).1) 38 (coI n nb (B 39, B 38)).2) F sw, 0, 0)) rfl ?_
    refine wp_go (f' := ((if (nI (2 ^ n - 1)) < (nI (2 ^ n)) then 63 else 14), [.ref 28, .int x, .long 0, .retAddr 0, .int (nI (2 ^ n)), .retAddr 0, .retAddr 0, .retAddr 0, .retAddr 0, .retAddr 0, .retAddr 0], [], MW A (upB (upB B 39 (coI n nb (B 39, B 38)).1) 38 (coI n nb (B 39, B 38)).2) F sw, 0, 0)) 1 rfl ?_
    refine wp_ite (fun _ => ?_) (fun h9 => absurd (nI_lt (by omega) (by omega)) h9)
    refine wp_go (f' := (69, [.ref 28, .int x, .long 0, .retAddr 0, .long 1, .retAddr 0, .int (nI 0), .retAddr 0, .retAddr 0, .retAddr 0, .retAddr 0], [], MW A (upB (upB B 39 (coI n nb (B 39, B 38)).1) 38 (coI n nb (B 39, B 38)).2) F sw, 0, 0)) 4 rfl ?_
    refine for_ind (P := fun (k : Nat) (q : (Nat → Int64) × Int64 × Int64) => ∀ e7 : Value, ∀ e8 : Value, ∀ e9 : Value, ∀ e10 : Value, mv_Wp xs Ls 3 6 false (some .long) mv_c121 (69, [.ref 28, .int x, .long q.2.1, .retAddr 0, .long q.2.2, .retAddr 0, .int (nI k), e7, e8, e9, e10], [], MW A (upB (upB B 39 (coI n nb (B 39, B 38)).1) 38 q.1) F sw, 0, 0) (some (.long (coN n nb x (B 39, B 38)).2.1), MW A (upB (upB B 39 (coI n nb (B 39, B 38)).1) 38 (coN n nb x (B 39, B 38)).1) F sw, 0, 0)) (f := coR n x (coI n nb (B 39, B 38)).1) (n := n + 1) ?_ (n + 1) ((coI n nb (B 39, B 38)).2, 0, 1) (Nat.le_refl _) ?_ _ _ _ _
    · intro k q hk ih e7 e8 e9 e10
      refine wp_go (f' := (75, [.ref 28, .int x, .long q.2.1, .retAddr 0, .long q.2.2, .retAddr 0, .int (nI k), e7, e8, e9, e10], [.int (F 6), .int (nI k)], MW A (upB (upB B 39 (coI n nb (B 39, B 38)).1) 38 q.1) F sw, 0, 0)) 3 rfl ?_
      rw [hM.2.1]
      refine wp_go (f' := ((if (nI n) < (nI k) then 202 else 78), [.ref 28, .int x, .long q.2.1, .retAddr 0, .long q.2.2, .retAddr 0, .int (nI k), e7, e8, e9, e10], [], MW A (upB (upB B 39 (coI n nb (B 39, B 38)).1) 38 q.1) F sw, 0, 0)) 1 rfl ?_
      refine wp_ite (fun h9 => absurd h9 (nI_nlt (by omega) (by omega))) (fun _ => ?_)
      refine wp_go (f' := (84, [.ref 28, .int x, .long q.2.1, .retAddr 0, .long q.2.2, .retAddr 0, .int (nI k), e7, e8, e9, e10], [.ref 28, .ref 38, .long q.2.1], MW A (upB (upB B 39 (coI n nb (B 39, B 38)).1) 38 q.1) F sw, 0, 0)) 4 rfl ?_
      refine wp_call rfl rfl rfl (ev_up (ev_all hM) (by decide)) ?_
      refine wp_eq (f' := (87, [.ref 28, .int x, .long q.2.1, .retAddr 0, .long q.2.2, .retAddr 0, .int (nI k), e7, e8, e9, e10], [.int (nI (2 ^ n - 1)), .ref 38, .long q.2.1], MW A (upB (upB B 39 (coI n nb (B 39, B 38)).1) 38 q.1) F sw, 0, 0)) rfl ?_
      refine wp_lald rfl rfl (by omega) (by decide) ?_
      refine wp_eq (f' := (88, [.ref 28, .int x, .long q.2.1, .retAddr 0, .long q.2.2, .retAddr 0, .int (nI k), e7, e8, e9, e10], [.long (q.1 (2 ^ n - 1)), .long q.2.1], MW A (upB (upB B 39 (coI n nb (B 39, B 38)).1) 38 q.1) F sw, 0, 0)) rfl ?_
      refine wp_go (f' := (104, [.ref 28, .int x, .long (q.2.1 + ((q.1 (2 ^ n - 1)) * q.2.2)), .retAddr 0, .long (q.2.2 * ((x - (nI k)).toInt64)), .retAddr 0, .int (nI k), e7, e8, e9, e10], [.ref 28], MW A (upB (upB B 39 (coI n nb (B 39, B 38)).1) 38 q.1) F sw, 0, 0)) 12 rfl ?_
      refine wp_call rfl rfl rfl (ev_up (ev_all hM) (by decide)) ?_
      refine wp_eq (f' := (107, [.ref 28, .int x, .long (q.2.1 + ((q.1 (2 ^ n - 1)) * q.2.2)), .retAddr 0, .long (q.2.2 * ((x - (nI k)).toInt64)), .retAddr 0, .int (nI k), e7, e8, e9, e10], [.int (nI (2 ^ n - 1))], MW A (upB (upB B 39 (coI n nb (B 39, B 38)).1) 38 q.1) F sw, 0, 0)) rfl ?_
      refine wp_go (f' := (109, [.ref 28, .int x, .long (q.2.1 + ((q.1 (2 ^ n - 1)) * q.2.2)), .retAddr 0, .long (q.2.2 * ((x - (nI k)).toInt64)), .retAddr 0, .int (nI k), .int (nI (2 ^ n - 1)), e8, e9, e10], [], MW A (upB (upB B 39 (coI n nb (B 39, B 38)).1) 38 q.1) F sw, 0, 0)) 1 rfl ?_
      have hm1 : nI (2 ^ n - 1) = nI (2 ^ n) + (-1) := by rw [show nI (2 ^ n) = nI ((2 ^ n - 1) + 1) by rw [Nat.sub_add_cancel hp1], pk_m1]
      rw [hm1]
      refine lp_col hM (2 ^ n) q.1 (Nat.le_refl _) ?_ _ _ _
      intro e8 e9 e10
      refine wp_go (f' := (199, [.ref 28, .int x, .long (q.2.1 + ((q.1 (2 ^ n - 1)) * q.2.2)), .retAddr 0, .long (q.2.2 * ((x - (nI k)).toInt64)), .retAddr 0, .int ((nI k) + 1), .int (-1), e8, e9, e10], [], MW A (upB (upB B 39 (coI n nb (B 39, B 38)).1) 38 (desF (coI n nb (B 39, B 38)).1 (2 ^ n) q.1)) F sw, 0, 0)) 1 rfl ?_
      rw [nI_1]
      refine wp_go (f' := (69, [.ref 28, .int x, .long (q.2.1 + ((q.1 (2 ^ n - 1)) * q.2.2)), .retAddr 0, .long (q.2.2 * ((x - (nI k)).toInt64)), .retAddr 0, .int (nI (k + 1)), .int (-1), e8, e9, e10], [], MW A (upB (upB B 39 (coI n nb (B 39, B 38)).1) 38 (desF (coI n nb (B 39, B 38)).1 (2 ^ n) q.1)) F sw, 0, 0)) 1 rfl ?_
      exact ih _ _ _ _
    · intro e7 e8 e9 e10
      refine wp_go (f' := (75, [.ref 28, .int x, .long ((coN n nb x (B 39, B 38)).2.1), .retAddr 0, .long ((coN n nb x (B 39, B 38)).2.2), .retAddr 0, .int (nI (n + 1)), e7, e8, e9, e10], [.int (F 6), .int (nI (n + 1))], MW A (upB (upB B 39 (coI n nb (B 39, B 38)).1) 38 (coN n nb x (B 39, B 38)).1) F sw, 0, 0)) 3 rfl ?_
      rw [hM.2.1]
      refine wp_go (f' := ((if (nI n) < (nI (n + 1)) then 202 else 78), [.ref 28, .int x, .long ((coN n nb x (B 39, B 38)).2.1), .retAddr 0, .long ((coN n nb x (B 39, B 38)).2.2), .retAddr 0, .int (nI (n + 1)), e7, e8, e9, e10], [], MW A (upB (upB B 39 (coI n nb (B 39, B 38)).1) 38 (coN n nb x (B 39, B 38)).1) F sw, 0, 0)) 1 rfl ?_
      refine wp_ite (fun _ => ?_) (fun h9 => absurd (nI_lt (by omega) (by omega)) h9)
      refine wp_go (f' := (203, [.ref 28, .int x, .long ((coN n nb x (B 39, B 38)).2.1), .retAddr 0, .long ((coN n nb x (B 39, B 38)).2.2), .retAddr 0, .int (nI (n + 1)), e7, e8, e9, e10], [.long ((coN n nb x (B 39, B 38)).2.1)], MW A (upB (upB B 39 (coI n nb (B 39, B 38)).1) 38 (coN n nb x (B 39, B 38)).1) F sw, 0, 0)) 1 rfl ?_
      exact wp_lret rfl
end MM
