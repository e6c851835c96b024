/-! arms of the last vertex -/
theorem nI_mul (a b : Nat) : nI a * nI b = nI (a * b) := by
  apply Int32.toBitVec_inj.mp
  apply BitVec.eq_of_toNat_eq
  simp [nI, Int32.toBitVec_mul, BitVec.toNat_mul, Nat.mul_mod]
theorem half_all {n : Nat} (hn : n ≤ 10) (h1 : 1 ≤ n) : nI (2 ^ n - 1) >>> (nI 1 &&& 31) = nI (2 ^ (n - 1) - 1) := by
  have h : ∀ n, n < 11 → 1 ≤ n → nI (2 ^ n - 1) >>> (nI 1 &&& 31) = nI (2 ^ (n - 1) - 1) := by decide +kernel
  exact h n (by omega) h1
theorem pow_half {n : Nat} (hn : n ≤ 10) (h1 : 1 ≤ n) : 2 ^ (n - 1) ≤ 512 ∧ 2 ^ n = 2 * 2 ^ (n - 1) := by
  have h : ∀ n, n < 11 → 1 ≤ n → 2 ^ (n - 1) ≤ 512 ∧ 2 ^ n = 2 * 2 ^ (n - 1) := by decide +kernel
  exact h n (by omega) h1
theorem low_512 {t : Nat} (ht : t < 512) (h0 : ¬ t = 0) : low t < 9 := by
  have h : ∀ t, t < 512 → ¬ t = 0 → low t < 9 := by decide +kernel
  exact h t ht h0
theorem oth_lt {n : Nat} (hn : n ≤ 10) : sd (2 ^ n - 1) (2 ^ (n - 1)) < 512 := by
  have h : ∀ n, n < 11 → sd (2 ^ n - 1) (2 ^ (n - 1)) < 512 := by decide +kernel
  exact h n (by omega)
/-- arms through s with an end in e -/
def armT (g : Nat → Int64) (s e : Nat) : Int64 := bitN (fun t a => a + g (s * 9 + low t)) (s &&& e) 0
def armV (n : Nat) (nb : Nat → Nat) (g : Nat → Int64) (s v : Nat) : Int64 := if sd s (2 ^ v) = 0 then (bI ((nb (n - 1)).testBit v)).toInt64 else if sd s (2 ^ v) = s then 0 else armT g (sd s (2 ^ v)) (nb v)
def armR (n : Nat) (nb : Nat → Nat) (s : Nat) (g : Nat → Int64) : Nat → Int64 := forN (fun v g => vp_updL g (s * 9 + v) (armV n nb g s v)) (n - 1) g
def armA (n : Nat) (nb : Nat → Nat) (g : Nat → Int64) : Nat → Int64 := forN (fun k g => armR n nb (k + 1) g) (2 ^ (n - 1) - 1) g
def wayG (g : Nat → Int64) (n : Nat) (f : Nat → Int64) : Nat → Int64 := forN (fun k f => vp_updL f (k + 1) (armT g (k + 1) (2 ^ (n - 1) - 1))) (2 ^ (n - 1) - 1) (vp_updL f 0 1)
def wayT (f : Nat → Int64) (n : Nat) : Int64 := forN (fun k a => a + f k * f (sd (2 ^ (n - 1) - 1) k)) (2 ^ (n - 1)) 0
section CC
variable {xs : Nat → Int32} {Ls : Nat} {A : Nat → Nat → Int32} {B : Nat → Nat → Int64} {F : Nat → Int32} {sw : Bool} {n : Nat} {nb : Nat → Nat}
theorem ev_cArms {s e : Nat} (hs : s < 512) : mv_Ev xs Ls 3 67 [.ref 24, .int (nI s), .int (nI e)] (MW A B F sw) (some (.long (armT (B 27) s e)), MW A B F sw, 0, 0) := by
  refine ev_of_wp rfl rfl rfl ?_
  have hse : s &&& e ≤ s := Nat.and_le_left
  refine wp_go (f' := (5, [.ref 24, .int (nI s), .int (nI e), .long 0, .retAddr 0, .retAddr 0], [.int ((nI s) &&& (nI e))], MW A B F sw, 0, 0)) 5 rfl ?_
  rw [bx_and]
  refine wp_go (f' := (7, [.ref 24, .int (nI s), .int (nI e), .long 0, .retAddr 0, .int (nI (s &&& e))], [], MW A B F sw, 0, 0)) 1 rfl ?_
  refine bit_ind (P := fun (t : Nat) (a : Int64) => (t ≤ s) → mv_Wp xs Ls 2 0 false (some .long) mv_c67 (7, [.ref 24, .int (nI s), .int (nI e), .long a, .retAddr 0, .int (nI t)], [], MW A B F sw, 0, 0) (some (.long (armT (B 27) s e)), MW A B F sw, 0, 0)) (g := fun t a => a + (B 27) (s * 9 + low t)) ?_ (s &&& e) 0 (by omega) ?_ hse
  · intro t a ht ht0 ih3 hin
    have htm : t &&& (t - 1) ≤ t - 1 := Nat.and_le_right
    refine wp_go (f' := ((if (nI t) = 0 then 42 else 12), [.ref 24, .int (nI s), .int (nI e), .long a, .retAddr 0, .int (nI t)], [], MW A B F sw, 0, 0)) 2 rfl ?_
    refine wp_ite (fun h9 => absurd h9 (fun h8 => ht0 ((nI_eq (a := t) (b := 0) (by omega) (by omega)).mp h8))) (fun _ => ?_)
    refine wp_go (f' := (21, [.ref 24, .int (nI s), .int (nI e), .long a, .retAddr 0, .int (nI t)], [.int ((nI s) * (nI 9)), .ref 27, .long a], MW A B F sw, 0, 0)) 6 rfl ?_
    rw [nI_mul]
    refine wp_go (f' := (23, [.ref 24, .int (nI s), .int (nI e), .long a, .retAddr 0, .int (nI t)], [.int (nI t), .int (nI (s * 9)), .ref 27, .long a], MW A B F sw, 0, 0)) 1 rfl ?_
    refine wp_call rfl rfl rfl (ev_up (ev_low (s := t) (by omega) (by omega) _) (by decide)) ?_
    refine wp_eq (f' := (26, [.ref 24, .int (nI s), .int (nI e), .long a, .retAddr 0, .int (nI t)], [.int (nI (low t)), .int (nI (s * 9)), .ref 27, .long a], MW A B F sw, 0, 0)) rfl ?_
    have hlw := low_512 (t := t) (by omega) (by omega)
    refine wp_go (f' := (27, [.ref 24, .int (nI s), .int (nI e), .long a, .retAddr 0, .int (nI t)], [.int ((nI (s * 9)) + (nI (low t))), .ref 27, .long a], MW A B F sw, 0, 0)) 1 rfl ?_
    rw [nI_add]
    refine wp_lald rfl rfl (by omega) (by decide) ?_
    refine wp_go (f' := (36, [.ref 24, .int (nI s), .int (nI e), .long (a + ((B 27) ((s * 9) + (low t)))), .retAddr 0, .int (nI t)], [.int ((nI t) - (nI 1)), .int (nI t)], MW A B F sw, 0, 0)) 6 rfl ?_
    rw [pk_sub (by omega)]
    refine wp_go (f' := (37, [.ref 24, .int (nI s), .int (nI e), .long (a + ((B 27) ((s * 9) + (low t)))), .retAddr 0, .int (nI t)], [.int ((nI t) &&& (nI (t - 1)))], MW A B F sw, 0, 0)) 1 rfl ?_
    rw [bx_and]
    refine wp_go (f' := (7, [.ref 24, .int (nI s), .int (nI e), .long (a + ((B 27) ((s * 9) + (low t)))), .retAddr 0, .int (nI (t &&& (t - 1)))], [], MW A B F sw, 0, 0)) 2 rfl ?_
    refine wp_eq ?_ (ih3 (by omega))
    first | rfl | simp []
  · intro hin
    refine wp_go (f' := ((if (nI 0) = 0 then 42 else 12), [.ref 24, .int (nI s), .int (nI e), .long (armT (B 27) s e), .retAddr 0, .int (nI 0)], [], MW A B F sw, 0, 0)) 2 rfl ?_
    refine wp_ite (fun _ => ?_) (fun h9 => absurd rfl h9)
    refine wp_go (f' := (43, [.ref 24, .int (nI s), .int (nI e), .long (armT (B 27) s e), .retAddr 0, .int (nI 0)], [.long (armT (B 27) s e)], MW A B F sw, 0, 0)) 1 rfl ?_
    exact wp_lret rfl
theorem ev_cFill (hC : CI A F n nb) (hR : RI A n nb) (h2 : 2 ≤ n) : mv_Ev xs Ls 4 66 [.ref 24] (MW A B F sw) (none, MW A (upB B 27 (armA n nb (B 27))) F sw, 0, 0) := by
  refine ev_of_wp rfl rfl rfl ?_
  have hn := hC.1
  have hp := pow10 hn
  have hp1 : 1 ≤ 2 ^ n := Nat.one_le_two_pow
  have hal := all_lt hn
  have hph := pow_half hn (by omega)
  refine wp_go (f' := (7, [.ref 24, .retAddr 0, .retAddr 0, .retAddr 0, .retAddr 0, .retAddr 0, .retAddr 0, .retAddr 0], [.int (F 0)], MW A B F sw, 0, 0)) 3 rfl ?_
  rw [hC.2.1]
  refine wp_go (f' := (9, [.ref 24, .retAddr 0, .retAddr 0, .retAddr 0, .retAddr 0, .retAddr 0, .retAddr 0, .retAddr 0], [.int ((nI n) - (nI 1))], MW A B F sw, 0, 0)) 2 rfl ?_
  rw [pk_sub (by omega)]
  refine wp_go (f' := (14, [.ref 24, .int (nI (n - 1)), .retAddr 0, .retAddr 0, .retAddr 0, .retAddr 0, .retAddr 0, .retAddr 0], [.ref 1], MW A B F sw, 0, 0)) 3 rfl ?_
  refine wp_call rfl rfl rfl (ev_up (ev_gAll hC) (by decide)) ?_
  refine wp_eq (f' := (17, [.ref 24, .int (nI (n - 1)), .retAddr 0, .retAddr 0, .retAddr 0, .retAddr 0, .retAddr 0, .retAddr 0], [.int (nI (2 ^ n - 1))], MW A B F sw, 0, 0)) rfl ?_
  refine wp_go (f' := (19, [.ref 24, .int (nI (n - 1)), .retAddr 0, .retAddr 0, .retAddr 0, .retAddr 0, .retAddr 0, .retAddr 0], [.int ((nI (2 ^ n - 1)) >>> ((nI 1) &&& 31))], MW A B F sw, 0, 0)) 2 rfl ?_
  rw [half_all hn (by omega)]
  refine wp_go (f' := (22, [.ref 24, .int (nI (n - 1)), .int (nI (2 ^ (n - 1) - 1)), .int (nI 1), .retAddr 0, .retAddr 0, .retAddr 0, .retAddr 0], [], MW A B F sw, 0, 0)) 3 rfl ?_
  refine wp_eq (f' := (22, [.ref 24, .int (nI (n - 1)), .int (nI (2 ^ (n - 1) - 1)), .int (nI 1), .retAddr 0, .retAddr 0, .retAddr 0, .retAddr 0], [], MW A (upB B 27 (B 27)) F sw, 0, 0)) rfl ?_
  refine for_ind (P := fun (k : Nat) (g : Nat → Int64) => ∀ e4 : Value, ∀ e5 : Value, ∀ e6 : Value, ∀ e7 : Value, mv_Wp xs Ls 3 0 false none mv_c66 (22, [.ref 24, .int (nI (n - 1)), .int (nI (2 ^ (n - 1) - 1)), .int (nI (k + 1)), e4, e5, e6, e7], [], MW A (upB B 27 g) F sw, 0, 0) (none, MW A (upB B 27 (armA n nb (B 27))) F sw, 0, 0)) (f := fun k g => armR n nb (k + 1) g) (n := 2 ^ (n - 1) - 1) ?_ (2 ^ (n - 1) - 1) (B 27) (Nat.le_refl _) ?_ _ _ _ _
  · intro k g hk ih e4 e5 e6 e7
    refine wp_go (f' := ((if (nI (2 ^ (n - 1) - 1)) < (nI (k + 1)) then 124 else 27), [.ref 24, .int (nI (n - 1)), .int (nI (2 ^ (n - 1) - 1)), .int (nI (k + 1)), e4, e5, e6, e7], [], MW A (upB B 27 g) F sw, 0, 0)) 3 rfl ?_
    refine wp_ite (fun h9 => absurd h9 (nI_nlt (by omega) (by omega))) (fun _ => ?_)
    refine wp_go (f' := (30, [.ref 24, .int (nI (n - 1)), .int (nI (2 ^ (n - 1) - 1)), .int (nI (k + 1)), .int (nI 0), e5, e6, e7], [], MW A (upB B 27 g) F sw, 0, 0)) 2 rfl ?_
    refine for_ind (P := fun (v : Nat) (h : Nat → Int64) => ∀ e5 e6 e7 : Value, mv_Wp xs Ls 3 0 false none mv_c66 (30, [.ref 24, .int (nI (n - 1)), .int (nI (2 ^ (n - 1) - 1)), .int (nI (k + 1)), .int (nI v), e5, e6, e7], [], MW A (upB B 27 h) F sw, 0, 0) (none, MW A (upB B 27 (armA n nb (B 27))) F sw, 0, 0)) (f := fun v g => vp_updL g ((k + 1) * 9 + v) (armV n nb g (k + 1) v)) (n := n - 1) ?_ (n - 1) g (Nat.le_refl _) ?_ _ _ _
    · intro v h hv ih2 e5 e6 e7
      have hsd := sd_le (a := k + 1) (b := 2 ^ v)
      refine wp_go (f' := ((if (nI (n - 1)) ≤ (nI v) then 118 else 36), [.ref 24, .int (nI (n - 1)), .int (nI (2 ^ (n - 1) - 1)), .int (nI (k + 1)), .int (nI v), e5, e6, e7], [], MW A (upB B 27 h) F sw, 0, 0)) 3 rfl ?_
      refine wp_ite (fun h9 => absurd h9 (nI_ge hv (by omega))) (fun _ => ?_)
      refine wp_go (f' := (41, [.ref 24, .int (nI (n - 1)), .int (nI (2 ^ (n - 1) - 1)), .int (nI (k + 1)), .int (nI v), e5, e6, e7], [.int ((nI 1) <<< ((nI v) &&& 31)), .int (nI (k + 1))], MW A (upB B 27 h) F sw, 0, 0)) 4 rfl ?_
      rw [bx_one (by omega)]
      refine wp_go (f' := (44, [.ref 24, .int (nI (n - 1)), .int (nI (2 ^ (n - 1) - 1)), .int (nI (k + 1)), .int (nI v), e5, e6, e7], [.int ((nI (k + 1)) &&& ((nI (2 ^ v)) ^^^ (-1)))], MW A (upB B 27 h) F sw, 0, 0)) 3 rfl ?_
      rw [bx_sd (by omega)]
      refine wp_go (f' := ((if ¬ (nI (sd (k + 1) (2 ^ v))) = 0 then 74 else 54), [.ref 24, .int (nI (n - 1)), .int (nI (2 ^ (n - 1) - 1)), .int (nI (k + 1)), .int (nI v), .int (nI (sd (k + 1) (2 ^ v))), .long 0, .retAddr 0], [], MW A (upB B 27 h) F sw, 0, 0)) 5 rfl ?_
      refine wp_ite (fun h1 => ?_) (fun h1 => ?_)
      · have h1 : ¬ (sd (k + 1) (2 ^ v) = 0) := fun h9 => h1 ((nI_eq (a := sd (k + 1) (2 ^ v)) (b := 0) (by omega) (by omega)).mpr h9)
        refine wp_go (f' := ((if (nI (sd (k + 1) (2 ^ v))) = (nI (k + 1)) then 98 else 80), [.ref 24, .int (nI (n - 1)), .int (nI (2 ^ (n - 1) - 1)), .int (nI (k + 1)), .int (nI v), .int (nI (sd (k + 1) (2 ^ v))), .long 0, .retAddr 0], [], MW A (upB B 27 h) F sw, 0, 0)) 3 rfl ?_
        refine wp_ite (fun h2 => ?_) (fun h2 => ?_)
        · have h2 : sd (k + 1) (2 ^ v) = k + 1 := (nI_eq (a := sd (k + 1) (2 ^ v)) (b := k + 1) (by omega) (by omega)).mp h2
          refine wp_go (f' := (106, [.ref 24, .int (nI (n - 1)), .int (nI (2 ^ (n - 1) - 1)), .int (nI (k + 1)), .int (nI v), .int (nI (sd (k + 1) (2 ^ v))), .long 0, .retAddr 0], [.int ((nI (k + 1)) * (nI 9)), .ref 27], MW A (upB B 27 h) F sw, 0, 0)) 5 rfl ?_
          rw [nI_mul]
          refine wp_go (f' := (109, [.ref 24, .int (nI (n - 1)), .int (nI (2 ^ (n - 1) - 1)), .int (nI (k + 1)), .int (nI v), .int (nI (sd (k + 1) (2 ^ v))), .long 0, .retAddr 0], [.int ((nI ((k + 1) * 9)) + (nI v)), .ref 27], MW A (upB B 27 h) F sw, 0, 0)) 2 rfl ?_
          rw [nI_add]
          refine wp_go (f' := (111, [.ref 24, .int (nI (n - 1)), .int (nI (2 ^ (n - 1) - 1)), .int (nI (k + 1)), .int (nI v), .int (nI (sd (k + 1) (2 ^ v))), .long 0, .retAddr 0], [.long 0, .int (nI (((k + 1) * 9) + v)), .ref 27], MW A (upB B 27 h) F sw, 0, 0)) 1 rfl ?_
          refine wp_last rfl rfl (by omega) (by decide) ?_
          refine wp_eq (f' := (112, [.ref 24, .int (nI (n - 1)), .int (nI (2 ^ (n - 1) - 1)), .int (nI (k + 1)), .int (nI v), .int (nI (sd (k + 1) (2 ^ v))), .long 0, .retAddr 0], [], MW A (upB B 27 (vp_updL h (((k + 1) * 9) + v) 0)) F sw, 0, 0)) rfl ?_
          refine wp_go (f' := (115, [.ref 24, .int (nI (n - 1)), .int (nI (2 ^ (n - 1) - 1)), .int (nI (k + 1)), .int ((nI v) + 1), .int (nI (sd (k + 1) (2 ^ v))), .long 0, .retAddr 0], [], MW A (upB B 27 (vp_updL h (((k + 1) * 9) + v) 0)) F sw, 0, 0)) 1 rfl ?_
          rw [nI_1]
          refine wp_go (f' := (30, [.ref 24, .int (nI (n - 1)), .int (nI (2 ^ (n - 1) - 1)), .int (nI (k + 1)), .int (nI (v + 1)), .int (nI (sd (k + 1) (2 ^ v))), .long 0, .retAddr 0], [], MW A (upB B 27 (vp_updL h (((k + 1) * 9) + v) 0)) F sw, 0, 0)) 1 rfl ?_
          have e9 : armV n nb h (k + 1) v = 0 := by unfold armV; rw [if_neg h1, if_pos h2]
          rw [e9] at ih2
          exact ih2 _ _ _
        · have h2 : ¬ (sd (k + 1) (2 ^ v) = k + 1) := fun h9 => h2 ((nI_eq (a := sd (k + 1) (2 ^ v)) (b := k + 1) (by omega) (by omega)).mpr h9)
          refine wp_go (f' := (92, [.ref 24, .int (nI (n - 1)), .int (nI (2 ^ (n - 1) - 1)), .int (nI (k + 1)), .int (nI v), .int (nI (sd (k + 1) (2 ^ v))), .long 0, .retAddr 0], [.int (nI v), .ref 2, .int (nI (sd (k + 1) (2 ^ v))), .ref 24], MW A (upB B 27 h) F sw, 0, 0)) 6 rfl ?_
          refine wp_iald rfl rfl (by omega) (by decide) ?_
          refine wp_eq (f' := (93, [.ref 24, .int (nI (n - 1)), .int (nI (2 ^ (n - 1) - 1)), .int (nI (k + 1)), .int (nI v), .int (nI (sd (k + 1) (2 ^ v))), .long 0, .retAddr 0], [.int ((A 2) v), .int (nI (sd (k + 1) (2 ^ v))), .ref 24], MW A (upB B 27 h) F sw, 0, 0)) rfl ?_
          rw [hC.2.2.1 v (by omega)]
          have hnb := hC.2.2.2 v (by omega)
          refine wp_call rfl rfl rfl (ev_up (ev_cArms (B := upB B 27 h) (s := sd (k + 1) (2 ^ v)) (e := nb v) (by omega)) (by decide)) ?_
          refine wp_eq (f' := (96, [.ref 24, .int (nI (n - 1)), .int (nI (2 ^ (n - 1) - 1)), .int (nI (k + 1)), .int (nI v), .int (nI (sd (k + 1) (2 ^ v))), .long 0, .retAddr 0], [.long (armT h (sd (k + 1) (2 ^ v)) (nb v))], MW A (upB B 27 h) F sw, 0, 0)) rfl ?_
          refine wp_go (f' := (106, [.ref 24, .int (nI (n - 1)), .int (nI (2 ^ (n - 1) - 1)), .int (nI (k + 1)), .int (nI v), .int (nI (sd (k + 1) (2 ^ v))), .long (armT h (sd (k + 1) (2 ^ v)) (nb v)), .retAddr 0], [.int ((nI (k + 1)) * (nI 9)), .ref 27], MW A (upB B 27 h) F sw, 0, 0)) 6 rfl ?_
          rw [nI_mul]
          refine wp_go (f' := (109, [.ref 24, .int (nI (n - 1)), .int (nI (2 ^ (n - 1) - 1)), .int (nI (k + 1)), .int (nI v), .int (nI (sd (k + 1) (2 ^ v))), .long (armT h (sd (k + 1) (2 ^ v)) (nb v)), .retAddr 0], [.int ((nI ((k + 1) * 9)) + (nI v)), .ref 27], MW A (upB B 27 h) F sw, 0, 0)) 2 rfl ?_
          rw [nI_add]
          refine wp_go (f' := (111, [.ref 24, .int (nI (n - 1)), .int (nI (2 ^ (n - 1) - 1)), .int (nI (k + 1)), .int (nI v), .int (nI (sd (k + 1) (2 ^ v))), .long (armT h (sd (k + 1) (2 ^ v)) (nb v)), .retAddr 0], [.long (armT h (sd (k + 1) (2 ^ v)) (nb v)), .int (nI (((k + 1) * 9) + v)), .ref 27], MW A (upB B 27 h) F sw, 0, 0)) 1 rfl ?_
          refine wp_last rfl rfl (by omega) (by decide) ?_
          refine wp_eq (f' := (112, [.ref 24, .int (nI (n - 1)), .int (nI (2 ^ (n - 1) - 1)), .int (nI (k + 1)), .int (nI v), .int (nI (sd (k + 1) (2 ^ v))), .long (armT h (sd (k + 1) (2 ^ v)) (nb v)), .retAddr 0], [], MW A (upB B 27 (vp_updL h (((k + 1) * 9) + v) (armT h (sd (k + 1) (2 ^ v)) (nb v)))) F sw, 0, 0)) rfl ?_
          refine wp_go (f' := (115, [.ref 24, .int (nI (n - 1)), .int (nI (2 ^ (n - 1) - 1)), .int (nI (k + 1)), .int ((nI v) + 1), .int (nI (sd (k + 1) (2 ^ v))), .long (armT h (sd (k + 1) (2 ^ v)) (nb v)), .retAddr 0], [], MW A (upB B 27 (vp_updL h (((k + 1) * 9) + v) (armT h (sd (k + 1) (2 ^ v)) (nb v)))) F sw, 0, 0)) 1 rfl ?_
          rw [nI_1]
          refine wp_go (f' := (30, [.ref 24, .int (nI (n - 1)), .int (nI (2 ^ (n - 1) - 1)), .int (nI (k + 1)), .int (nI (v + 1)), .int (nI (sd (k + 1) (2 ^ v))), .long (armT h (sd (k + 1) (2 ^ v)) (nb v)), .retAddr 0], [], MW A (upB B 27 (vp_updL h (((k + 1) * 9) + v) (armT h (sd (k + 1) (2 ^ v)) (nb v)))) F sw, 0, 0)) 1 rfl ?_
          have e9 : armV n nb h (k + 1) v = (armT h (sd (k + 1) (2 ^ v)) (nb v)) := by unfold armV; rw [if_neg h1, if_neg h2]
          rw [e9] at ih2
          exact ih2 _ _ _
      · have h1 := Classical.not_not.mp h1; have h1 : sd (k + 1) (2 ^ v) = 0 := (nI_eq (a := sd (k + 1) (2 ^ v)) (b := 0) (by omega) (by omega)).mp h1
        refine wp_go (f' := (62, [.ref 24, .int (nI (n - 1)), .int (nI (2 ^ (n - 1) - 1)), .int (nI (k + 1)), .int (nI v), .int (nI (sd (k + 1) (2 ^ v))), .long 0, .retAddr 0], [.int (nI (n - 1)), .ref 2], MW A (upB B 27 h) F sw, 0, 0)) 4 rfl ?_
        refine wp_iald rfl rfl (by omega) (by decide) ?_
        refine wp_eq (f' := (63, [.ref 24, .int (nI (n - 1)), .int (nI (2 ^ (n - 1) - 1)), .int (nI (k + 1)), .int (nI v), .int (nI (sd (k + 1) (2 ^ v))), .long 0, .retAddr 0], [.int ((A 2) (n - 1))], MW A (upB B 27 h) F sw, 0, 0)) rfl ?_
        rw [hC.2.2.1 (n - 1) (by omega)]
        have hnb := hC.2.2.2 (n - 1) (by omega)
        refine wp_go (f' := (68, [.ref 24, .int (nI (n - 1)), .int (nI (2 ^ (n - 1) - 1)), .int (nI (k + 1)), .int (nI v), .int (nI (sd (k + 1) (2 ^ v))), .long 0, .retAddr 0], [.int (((nI (nb (n - 1))) >>> ((nI v) &&& 31)) &&& (nI 1))], MW A (upB B 27 h) F sw, 0, 0)) 4 rfl ?_
        rw [bx_bit (by omega) (by omega)]
        refine wp_go (f' := (106, [.ref 24, .int (nI (n - 1)), .int (nI (2 ^ (n - 1) - 1)), .int (nI (k + 1)), .int (nI v), .int (nI (sd (k + 1) (2 ^ v))), .long ((bI ((nb (n - 1)).testBit v)).toInt64), .retAddr 0], [.int ((nI (k + 1)) * (nI 9)), .ref 27], MW A (upB B 27 h) F sw, 0, 0)) 8 rfl ?_
        rw [nI_mul]
        refine wp_go (f' := (109, [.ref 24, .int (nI (n - 1)), .int (nI (2 ^ (n - 1) - 1)), .int (nI (k + 1)), .int (nI v), .int (nI (sd (k + 1) (2 ^ v))), .long ((bI ((nb (n - 1)).testBit v)).toInt64), .retAddr 0], [.int ((nI ((k + 1) * 9)) + (nI v)), .ref 27], MW A (upB B 27 h) F sw, 0, 0)) 2 rfl ?_
        rw [nI_add]
        refine wp_go (f' := (111, [.ref 24, .int (nI (n - 1)), .int (nI (2 ^ (n - 1) - 1)), .int (nI (k + 1)), .int (nI v), .int (nI (sd (k + 1) (2 ^ v))), .long ((bI ((nb (n - 1)).testBit v)).toInt64), .retAddr 0], [.long ((bI ((nb (n - 1)).testBit v)).toInt64), .int (nI (((k + 1) * 9) + v)), .ref 27], MW A (upB B 27 h) F sw, 0, 0)) 1 rfl ?_
        refine wp_last rfl rfl (by omega) (by decide) ?_
        refine wp_eq (f' := (112, [.ref 24, .int (nI (n - 1)), .int (nI (2 ^ (n - 1) - 1)), .int (nI (k + 1)), .int (nI v), .int (nI (sd (k + 1) (2 ^ v))), .long ((bI ((nb (n - 1)).testBit v)).toInt64), .retAddr 0], [], MW A (upB B 27 (vp_updL h (((k + 1) * 9) + v) ((bI ((nb (n - 1)).testBit v)).toInt64))) F sw, 0, 0)) rfl ?_
        refine wp_go (f' := (115, [.ref 24, .int (nI (n - 1)), .int (nI (2 ^ (n - 1) - 1)), .int (nI (k + 1)), .int ((nI v) + 1), .int (nI (sd (k + 1) (2 ^ v))), .long ((bI ((nb (n - 1)).testBit v)).toInt64), .retAddr 0], [], MW A (upB B 27 (vp_updL h (((k + 1) * 9) + v) ((bI ((nb (n - 1)).testBit v)).toInt64))) F sw, 0, 0)) 1 rfl ?_
        rw [nI_1]
        refine wp_go (f' := (30, [.ref 24, .int (nI (n - 1)), .int (nI (2 ^ (n - 1) - 1)), .int (nI (k + 1)), .int (nI (v + 1)), .int (nI (sd (k + 1) (2 ^ v))), .long ((bI ((nb (n - 1)).testBit v)).toInt64), .retAddr 0], [], MW A (upB B 27 (vp_updL h (((k + 1) * 9) + v) ((bI ((nb (n - 1)).testBit v)).toInt64))) F sw, 0, 0)) 1 rfl ?_
        have e9 : armV n nb h (k + 1) v = (bI ((nb (n - 1)).testBit v)).toInt64 := by unfold armV; rw [if_pos h1]
        rw [e9] at ih2
        exact ih2 _ _ _
    · intro e5 e6 e7
      refine wp_go (f' := ((if (nI (n - 1)) ≤ (nI (n - 1)) then 118 else 36), [.ref 24, .int (nI (n - 1)), .int (nI (2 ^ (n - 1) - 1)), .int (nI (k + 1)), .int (nI (n - 1)), e5, e6, e7], [], MW A (upB B 27 (armR n nb (k + 1) g)) F sw, 0, 0)) 3 rfl ?_
      refine wp_ite (fun _ => ?_) (fun h9 => absurd (nI_le (Nat.le_refl _) (by omega)) h9)
      refine wp_go (f' := (121, [.ref 24, .int (nI (n - 1)), .int (nI (2 ^ (n - 1) - 1)), .int ((nI (k + 1)) + 1), .int (nI (n - 1)), e5, e6, e7], [], MW A (upB B 27 (armR n nb (k + 1) g)) F sw, 0, 0)) 1 rfl ?_
      rw [nI_1]
      refine wp_go (f' := (22, [.ref 24, .int (nI (n - 1)), .int (nI (2 ^ (n - 1) - 1)), .int (nI ((k + 1) + 1)), .int (nI (n - 1)), e5, e6, e7], [], MW A (upB B 27 (armR n nb (k + 1) g)) F sw, 0, 0)) 1 rfl ?_
      exact ih (.int (nI (n - 1))) e5 e6 e7
  · intro e4 e5 e6 e7
    refine wp_go (f' := ((if (nI (2 ^ (n - 1) - 1)) < (nI (2 ^ (n - 1) - 1 + 1)) then 124 else 27), [.ref 24, .int (nI (n - 1)), .int (nI (2 ^ (n - 1) - 1)), .int (nI (2 ^ (n - 1) - 1 + 1)), e4, e5, e6, e7], [], MW A (upB B 27 (armA n nb (B 27))) F sw, 0, 0)) 3 rfl ?_
    refine wp_ite (fun _ => ?_) (fun h9 => absurd (nI_lt (by omega) (by omega)) h9)
    exact wp_vret rfl
theorem ev_cRings (hC : CI A F n nb) (hR : RI A n nb) (h2 : 3 ≤ n) : mv_Ev xs Ls 5 65 [.ref 24] (MW A B F sw) (some (.long (armT (armA n nb (B 27)) (sd (2 ^ n - 1) (2 ^ (n - 1))) (nb (n - 1)) / 2)), MW A (upB B 27 (armA n nb (B 27))) F sw, 0, 0) := by
  refine ev_of_wp rfl rfl rfl ?_
  have hn := hC.1
  have hp := pow10 hn
  have hp1 : 1 ≤ 2 ^ n := Nat.one_le_two_pow
  have hal := all_lt hn
  have hph := pow_half hn (by omega)
  have hot : sd (2 ^ n - 1) (2 ^ (n - 1)) < 512 := oth_lt hn
  refine wp_go (f' := (7, [.ref 24, .retAddr 0, .retAddr 0], [.int (F 0)], MW A B F sw, 0, 0)) 3 rfl ?_
  rw [hC.2.1]
  refine wp_go (f' := ((if (nI 3) ≤ (nI n) then 13 else 11), [.ref 24, .retAddr 0, .retAddr 0], [], MW A B F sw, 0, 0)) 2 rfl ?_
  refine wp_ite (fun _ => ?_) (fun h9 => absurd (nI_le (a := 3) (b := n) (by omega) (by omega)) h9)
  refine wp_go (f' := (14, [.ref 24, .retAddr 0, .retAddr 0], [.ref 24], MW A B F sw, 0, 0)) 1 rfl ?_
  refine wp_call rfl rfl rfl (ev_up (ev_cFill hC hR (by omega)) (by decide)) ?_
  refine wp_eq (f' := (17, [.ref 24, .retAddr 0, .retAddr 0], [], MW A (upB B 27 (armA n nb (B 27))) F sw, 0, 0)) rfl ?_
  refine wp_go (f' := (24, [.ref 24, .retAddr 0, .retAddr 0], [.int (F 0)], MW A (upB B 27 (armA n nb (B 27))) F sw, 0, 0)) 3 rfl ?_
  rw [hC.2.1]
  refine wp_go (f' := (26, [.ref 24, .retAddr 0, .retAddr 0], [.int ((nI n) - (nI 1))], MW A (upB B 27 (armA n nb (B 27))) F sw, 0, 0)) 2 rfl ?_
  rw [pk_sub (by omega)]
  refine wp_go (f' := (31, [.ref 24, .int (nI (n - 1)), .retAddr 0], [.ref 1], MW A (upB B 27 (armA n nb (B 27))) F sw, 0, 0)) 3 rfl ?_
  refine wp_call rfl rfl rfl (ev_up (ev_gAll hC) (by decide)) ?_
  refine wp_eq (f' := (34, [.ref 24, .int (nI (n - 1)), .retAddr 0], [.int (nI (2 ^ n - 1))], MW A (upB B 27 (armA n nb (B 27))) F sw, 0, 0)) rfl ?_
  refine wp_go (f' := (37, [.ref 24, .int (nI (n - 1)), .retAddr 0], [.int ((nI 1) <<< ((nI (n - 1)) &&& 31)), .int (nI (2 ^ n - 1))], MW A (upB B 27 (armA n nb (B 27))) F sw, 0, 0)) 3 rfl ?_
  rw [bx_one (by omega)]
  refine wp_go (f' := (40, [.ref 24, .int (nI (n - 1)), .retAddr 0], [.int ((nI (2 ^ n - 1)) &&& ((nI (2 ^ (n - 1))) ^^^ (-1)))], MW A (upB B 27 (armA n nb (B 27))) F sw, 0, 0)) 3 rfl ?_
  rw [bx_sd (by omega)]
  refine wp_go (f' := (51, [.ref 24, .int (nI (n - 1)), .int (nI (sd (2 ^ n - 1) (2 ^ (n - 1))))], [.int (nI (n - 1)), .ref 2, .int (nI (sd (2 ^ n - 1) (2 ^ (n - 1)))), .ref 24], MW A (upB B 27 (armA n nb (B 27))) F sw, 0, 0)) 7 rfl ?_
  refine wp_iald rfl rfl (by omega) (by decide) ?_
  refine wp_eq (f' := (52, [.ref 24, .int (nI (n - 1)), .int (nI (sd (2 ^ n - 1) (2 ^ (n - 1))))], [.int ((A 2) (n - 1)), .int (nI (sd (2 ^ n - 1) (2 ^ (n - 1)))), .ref 24], MW A (upB B 27 (armA n nb (B 27))) F sw, 0, 0)) rfl ?_
  rw [hC.2.2.1 (n - 1) (by omega)]
  have hnb := hC.2.2.2 (n - 1) (by omega)
  refine wp_call rfl rfl rfl (ev_up (ev_cArms (B := upB B 27 (armA n nb (B 27))) (s := sd (2 ^ n - 1) (2 ^ (n - 1))) (e := nb (n - 1)) hot) (by decide)) ?_
  refine wp_eq (f' := (55, [.ref 24, .int (nI (n - 1)), .int (nI (sd (2 ^ n - 1) (2 ^ (n - 1))))], [.long (armT (armA n nb (B 27)) (sd (2 ^ n - 1) (2 ^ (n - 1))) (nb (n - 1)))], MW A (upB B 27 (armA n nb (B 27))) F sw, 0, 0)) rfl ?_
  refine wp_go (f' := (59, [.ref 24, .int (nI (n - 1)), .int (nI (sd (2 ^ n - 1) (2 ^ (n - 1))))], [.long ((armT (armA n nb (B 27)) (sd (2 ^ n - 1) (2 ^ (n - 1))) (nb (n - 1))) / 2)], MW A (upB B 27 (armA n nb (B 27))) F sw, 0, 0)) 2 rfl ?_
  exact wp_lret rfl
theorem ev_cRings0 (hC : CI A F n nb) (hR : RI A n nb) (h2 : n < 3) : mv_Ev xs Ls 5 65 [.ref 24] (MW A B F sw) (some (.long 0), MW A B F sw, 0, 0) := by
  refine ev_of_wp rfl rfl rfl ?_
  refine wp_go (f' := (7, [.ref 24, .retAddr 0, .retAddr 0], [.int (F 0)], MW A B F sw, 0, 0)) 3 rfl ?_
  rw [hC.2.1]
  refine wp_go (f' := ((if (nI 3) ≤ (nI n) then 13 else 11), [.ref 24, .retAddr 0, .retAddr 0], [], MW A B F sw, 0, 0)) 2 rfl ?_
  refine wp_ite (fun h9 => absurd h9 (nI_ge (by omega) (by omega))) (fun _ => ?_)
  refine wp_go (f' := (12, [.ref 24, .retAddr 0, .retAddr 0], [.long 0], MW A B F sw, 0, 0)) 1 rfl ?_
  exact wp_lret rfl
theorem ev_cWays_f (hC : CI A F n nb) (hR : RI A n nb) (h2 : 2 ≤ n) : mv_Ev xs Ls 5 68 [.ref 24] (MW A B F false) (some (.long (wayT (wayG (armA n nb (B 27)) n (B 25)) n / 2)), MW A (upB (upB B 27 (armA n nb (B 27))) 25 (wayG (armA n nb (B 27)) n (B 25))) F false, 0, 0) := by
  refine ev_of_wp rfl rfl rfl ?_
  have hn := hC.1
  have hp := pow10 hn
  have hp1 : 1 ≤ 2 ^ n := Nat.one_le_two_pow
  have hal := all_lt hn
  have hph := pow_half hn (by omega)
  refine wp_go (f' := (7, [.ref 24, .retAddr 0, .retAddr 0, .retAddr 0, .retAddr 0], [.int (F 0)], MW A B F false, 0, 0)) 3 rfl ?_
  rw [hC.2.1]
  refine wp_go (f' := ((if (nI 2) ≤ (nI n) then 20 else 11), [.ref 24, .retAddr 0, .retAddr 0, .retAddr 0, .retAddr 0], [], MW A B F false, 0, 0)) 2 rfl ?_
  refine wp_ite (fun _ => ?_) (fun h9 => absurd (nI_le (a := 2) (b := n) (by omega) (by omega)) h9)
  refine wp_go (f' := (21, [.ref 24, .retAddr 0, .retAddr 0, .retAddr 0, .retAddr 0], [.ref 24], MW A B F false, 0, 0)) 1 rfl ?_
  refine wp_call rfl rfl rfl (ev_up (ev_cFill hC hR (by omega)) (by decide)) ?_
  refine wp_eq (f' := (24, [.ref 24, .retAddr 0, .retAddr 0, .retAddr 0, .retAddr 0], [], MW A (upB B 27 (armA n nb (B 27))) F false, 0, 0)) rfl ?_
  refine wp_go (f' := (28, [.ref 24, .retAddr 0, .retAddr 0, .retAddr 0, .retAddr 0], [.ref 1], MW A (upB B 27 (armA n nb (B 27))) F false, 0, 0)) 2 rfl ?_
  refine wp_call rfl rfl rfl (ev_up (ev_gAll hC) (by decide)) ?_
  refine wp_eq (f' := (31, [.ref 24, .retAddr 0, .retAddr 0, .retAddr 0, .retAddr 0], [.int (nI (2 ^ n - 1))], MW A (upB B 27 (armA n nb (B 27))) F false, 0, 0)) rfl ?_
  refine wp_go (f' := (33, [.ref 24, .retAddr 0, .retAddr 0, .retAddr 0, .retAddr 0], [.int ((nI (2 ^ n - 1)) >>> ((nI 1) &&& 31))], MW A (upB B 27 (armA n nb (B 27))) F false, 0, 0)) 2 rfl ?_
  rw [half_all hn (by omega)]
  refine wp_go (f' := (40, [.ref 24, .int (nI (2 ^ (n - 1) - 1)), .retAddr 0, .retAddr 0, .retAddr 0], [.long 1, .int (nI 0), .ref 25], MW A (upB B 27 (armA n nb (B 27))) F false, 0, 0)) 5 rfl ?_
  refine wp_last rfl rfl (by omega) (by decide) ?_
  refine wp_eq (f' := (41, [.ref 24, .int (nI (2 ^ (n - 1) - 1)), .retAddr 0, .retAddr 0, .retAddr 0], [], MW A (upB (upB B 27 (armA n nb (B 27))) 25 (vp_updL (B 25) 0 1)) F false, 0, 0)) rfl ?_
  refine wp_go (f' := (43, [.ref 24, .int (nI (2 ^ (n - 1) - 1)), .int (nI 1), .retAddr 0, .retAddr 0], [], MW A (upB (upB B 27 (armA n nb (B 27))) 25 (vp_updL (B 25) 0 1)) F false, 0, 0)) 2 rfl ?_
  refine for_ind (P := fun (k : Nat) (f : Nat → Int64) => mv_Wp xs Ls 4 0 false (some .long) mv_c68 (43, [.ref 24, .int (nI (2 ^ (n - 1) - 1)), .int (nI (k + 1)), .retAddr 0, .retAddr 0], [], MW A (upB (upB B 27 (armA n nb (B 27))) 25 f) F false, 0, 0) (some (.long (wayT (wayG (armA n nb (B 27)) n (B 25)) n / 2)), MW A (upB (upB B 27 (armA n nb (B 27))) 25 (wayG (armA n nb (B 27)) n (B 25))) F false, 0, 0)) (f := fun k f => vp_updL f (k + 1) (armT (armA n nb (B 27)) (k + 1) (2 ^ (n - 1) - 1))) (n := 2 ^ (n - 1) - 1) ?_ (2 ^ (n - 1) - 1) (vp_updL (B 25) 0 1) (Nat.le_refl _) ?_
  · intro k f hk ih
    refine wp_go (f' := ((if (nI (2 ^ (n - 1) - 1)) < (nI (k + 1)) then 66 else 48), [.ref 24, .int (nI (2 ^ (n - 1) - 1)), .int (nI (k + 1)), .retAddr 0, .retAddr 0], [], MW A (upB (upB B 27 (armA n nb (B 27))) 25 f) F false, 0, 0)) 3 rfl ?_
    refine wp_ite (fun h9 => absurd h9 (nI_nlt (by omega) (by omega))) (fun _ => ?_)
    refine wp_go (f' := (56, [.ref 24, .int (nI (2 ^ (n - 1) - 1)), .int (nI (k + 1)), .retAddr 0, .retAddr 0], [.int (nI (2 ^ (n - 1) - 1)), .int (nI (k + 1)), .ref 24, .int (nI (k + 1)), .ref 25], MW A (upB (upB B 27 (armA n nb (B 27))) 25 f) F false, 0, 0)) 6 rfl ?_
    refine wp_call rfl rfl rfl (ev_up (ev_cArms (B := upB (upB B 27 (armA n nb (B 27))) 25 f) (s := k + 1) (e := 2 ^ (n - 1) - 1) (by omega)) (by decide)) ?_
    refine wp_eq (f' := (59, [.ref 24, .int (nI (2 ^ (n - 1) - 1)), .int (nI (k + 1)), .retAddr 0, .retAddr 0], [.long (armT (armA n nb (B 27)) (k + 1) (2 ^ (n - 1) - 1)), .int (nI (k + 1)), .ref 25], MW A (upB (upB B 27 (armA n nb (B 27))) 25 f) F false, 0, 0)) rfl ?_
    refine wp_last rfl rfl (by omega) (by decide) ?_
    refine wp_eq (f' := (60, [.ref 24, .int (nI (2 ^ (n - 1) - 1)), .int (nI (k + 1)), .retAddr 0, .retAddr 0], [], MW A (upB (upB B 27 (armA n nb (B 27))) 25 (vp_updL f (k + 1) (armT (armA n nb (B 27)) (k + 1) (2 ^ (n - 1) - 1)))) F false, 0, 0)) rfl ?_
    refine wp_go (f' := (63, [.ref 24, .int (nI (2 ^ (n - 1) - 1)), .int ((nI (k + 1)) + 1), .retAddr 0, .retAddr 0], [], MW A (upB (upB B 27 (armA n nb (B 27))) 25 (vp_updL f (k + 1) (armT (armA n nb (B 27)) (k + 1) (2 ^ (n - 1) - 1)))) F false, 0, 0)) 1 rfl ?_
    rw [nI_1]
    refine wp_go (f' := (43, [.ref 24, .int (nI (2 ^ (n - 1) - 1)), .int (nI ((k + 1) + 1)), .retAddr 0, .retAddr 0], [], MW A (upB (upB B 27 (armA n nb (B 27))) 25 (vp_updL f (k + 1) (armT (armA n nb (B 27)) (k + 1) (2 ^ (n - 1) - 1)))) F false, 0, 0)) 1 rfl ?_
    exact ih
  · skip
    refine wp_go (f' := ((if (nI (2 ^ (n - 1) - 1)) < (nI (2 ^ (n - 1) - 1 + 1)) then 66 else 48), [.ref 24, .int (nI (2 ^ (n - 1) - 1)), .int (nI (2 ^ (n - 1) - 1 + 1)), .retAddr 0, .retAddr 0], [], MW A (upB (upB B 27 (armA n nb (B 27))) 25 (wayG (armA n nb (B 27)) n (B 25))) F false, 0, 0)) 3 rfl ?_
    refine wp_ite (fun _ => ?_) (fun h9 => absurd (nI_lt (by omega) (by omega)) h9)
    refine wp_go (f' := (71, [.ref 24, .int (nI (2 ^ (n - 1) - 1)), .long 0, .retAddr 0, .int (nI 0)], [], MW A (upB (upB B 27 (armA n nb (B 27))) 25 (wayG (armA n nb (B 27)) n (B 25))) F false, 0, 0)) 4 rfl ?_
    refine for_ind (P := fun (k : Nat) (a : Int64) => mv_Wp xs Ls 4 0 false (some .long) mv_c68 (71, [.ref 24, .int (nI (2 ^ (n - 1) - 1)), .long a, .retAddr 0, .int (nI k)], [], MW A (upB (upB B 27 (armA n nb (B 27))) 25 (wayG (armA n nb (B 27)) n (B 25))) F false, 0, 0) (some (.long (wayT (wayG (armA n nb (B 27)) n (B 25)) n / 2)), MW A (upB (upB B 27 (armA n nb (B 27))) 25 (wayG (armA n nb (B 27)) n (B 25))) F false, 0, 0)) (f := fun k a => a + (wayG (armA n nb (B 27)) n (B 25)) k * (wayG (armA n nb (B 27)) n (B 25)) (sd (2 ^ (n - 1) - 1) k)) (n := 2 ^ (n - 1)) ?_ (2 ^ (n - 1)) 0 (Nat.le_refl _) ?_
    · intro k a hk ih
      have hsd := sd_le (a := 2 ^ (n - 1) - 1) (b := k)
      refine wp_go (f' := ((if (nI (2 ^ (n - 1) - 1)) < (nI k) then 105 else 77), [.ref 24, .int (nI (2 ^ (n - 1) - 1)), .long a, .retAddr 0, .int (nI k)], [], MW A (upB (upB B 27 (armA n nb (B 27))) 25 (wayG (armA n nb (B 27)) n (B 25))) F false, 0, 0)) 3 rfl ?_
      refine wp_ite (fun h9 => absurd h9 (nI_nlt (by omega) (by omega))) (fun _ => ?_)
      refine wp_go (f' := (84, [.ref 24, .int (nI (2 ^ (n - 1) - 1)), .long a, .retAddr 0, .int (nI k)], [.int (nI k), .ref 25, .long a], MW A (upB (upB B 27 (armA n nb (B 27))) 25 (wayG (armA n nb (B 27)) n (B 25))) F false, 0, 0)) 4 rfl ?_
      refine wp_lald rfl rfl (by omega) (by decide) ?_
      refine wp_eq (f' := (85, [.ref 24, .int (nI (2 ^ (n - 1) - 1)), .long a, .retAddr 0, .int (nI k)], [.long ((wayG (armA n nb (B 27)) n (B 25)) k), .long a], MW A (upB (upB B 27 (armA n nb (B 27))) 25 (wayG (armA n nb (B 27)) n (B 25))) F false, 0, 0)) rfl ?_
      refine wp_go (f' := (95, [.ref 24, .int (nI (2 ^ (n - 1) - 1)), .long a, .retAddr 0, .int (nI k)], [.int ((nI (2 ^ (n - 1) - 1)) &&& ((nI k) ^^^ (-1))), .ref 25, .long ((wayG (armA n nb (B 27)) n (B 25)) k), .long a], MW A (upB (upB B 27 (armA n nb (B 27))) 25 (wayG (armA n nb (B 27)) n (B 25))) F false, 0, 0)) 7 rfl ?_
      rw [bx_sd (by omega)]
      refine wp_lald rfl rfl (by omega) (by decide) ?_
      refine wp_eq (f' := (96, [.ref 24, .int (nI (2 ^ (n - 1) - 1)), .long a, .retAddr 0, .int (nI k)], [.long ((wayG (armA n nb (B 27)) n (B 25)) (sd (2 ^ (n - 1) - 1) k)), .long ((wayG (armA n nb (B 27)) n (B 25)) k), .long a], MW A (upB (upB B 27 (armA n nb (B 27))) 25 (wayG (armA n nb (B 27)) n (B 25))) F false, 0, 0)) rfl ?_
      refine wp_go (f' := (102, [.ref 24, .int (nI (2 ^ (n - 1) - 1)), .long (a + (((wayG (armA n nb (B 27)) n (B 25)) k) * ((wayG (armA n nb (B 27)) n (B 25)) (sd (2 ^ (n - 1) - 1) k)))), .retAddr 0, .int ((nI k) + 1)], [], MW A (upB (upB B 27 (armA n nb (B 27))) 25 (wayG (armA n nb (B 27)) n (B 25))) F false, 0, 0)) 4 rfl ?_
      rw [nI_1]
      refine wp_go (f' := (71, [.ref 24, .int (nI (2 ^ (n - 1) - 1)), .long (a + (((wayG (armA n nb (B 27)) n (B 25)) k) * ((wayG (armA n nb (B 27)) n (B 25)) (sd (2 ^ (n - 1) - 1) k)))), .retAddr 0, .int (nI (k + 1))], [], MW A (upB (upB B 27 (armA n nb (B 27))) 25 (wayG (armA n nb (B 27)) n (B 25))) F false, 0, 0)) 1 rfl ?_
      exact ih
    · skip
      refine wp_go (f' := ((if (nI (2 ^ (n - 1) - 1)) < (nI (2 ^ (n - 1))) then 105 else 77), [.ref 24, .int (nI (2 ^ (n - 1) - 1)), .long (wayT (wayG (armA n nb (B 27)) n (B 25)) n), .retAddr 0, .int (nI (2 ^ (n - 1)))], [], MW A (upB (upB B 27 (armA n nb (B 27))) 25 (wayG (armA n nb (B 27)) n (B 25))) F false, 0, 0)) 3 rfl ?_
      refine wp_ite (fun _ => ?_) (fun h9 => absurd (nI_lt (by omega) (by omega)) h9)
      refine wp_go (f' := (110, [.ref 24, .int (nI (2 ^ (n - 1) - 1)), .long (wayT (wayG (armA n nb (B 27)) n (B 25)) n), .retAddr 0, .int (nI (2 ^ (n - 1)))], [.long ((wayT (wayG (armA n nb (B 27)) n (B 25)) n) / 2)], MW A (upB (upB B 27 (armA n nb (B 27))) 25 (wayG (armA n nb (B 27)) n (B 25))) F false, 0, 0)) 3 rfl ?_
      exact wp_lret rfl
theorem ev_cWays_t (hC : CI A F n nb) (hR : RI A n nb) (h2 : 2 ≤ n) : mv_Ev xs Ls 5 68 [.ref 24] (MW A B F true) (some (.long (wayT (wayG (armA n nb (B 27)) n (B 25)) n / 2)), MW A (upB (upB B 27 (armA n nb (B 27))) 25 (wayG (armA n nb (B 27)) n (B 25))) F true, 0, 0) := by
  refine ev_of_wp rfl rfl rfl ?_
  have hn := hC.1
  have hp := pow10 hn
  have hp1 : 1 ≤ 2 ^ n := Nat.one_le_two_pow
  have hal := all_lt hn
  have hph := pow_half hn (by omega)
  refine wp_go (f' := (7, [.ref 24, .retAddr 0, .retAddr 0, .retAddr 0, .retAddr 0], [.int (F 0)], MW A B F true, 0, 0)) 3 rfl ?_
  rw [hC.2.1]
  refine wp_go (f' := ((if (nI 2) ≤ (nI n) then 20 else 11), [.ref 24, .retAddr 0, .retAddr 0, .retAddr 0, .retAddr 0], [], MW A B F true, 0, 0)) 2 rfl ?_
  refine wp_ite (fun _ => ?_) (fun h9 => absurd (nI_le (a := 2) (b := n) (by omega) (by omega)) h9)
  refine wp_go (f' := (21, [.ref 24, .retAddr 0, .retAddr 0, .retAddr 0, .retAddr 0], [.ref 24], MW A B F true, 0, 0)) 1 rfl ?_
  refine wp_call rfl rfl rfl (ev_up (ev_cFill hC hR (by omega)) (by decide)) ?_
  refine wp_eq (f' := (24, [.ref 24, .retAddr 0, .retAddr 0, .retAddr 0, .retAddr 0], [], MW A (upB B 27 (armA n nb (B 27))) F true, 0, 0)) rfl ?_
  refine wp_go (f' := (28, [.ref 24, .retAddr 0, .retAddr 0, .retAddr 0, .retAddr 0], [.ref 1], MW A (upB B 27 (armA n nb (B 27))) F true, 0, 0)) 2 rfl ?_
  refine wp_call rfl rfl rfl (ev_up (ev_gAll hC) (by decide)) ?_
  refine wp_eq (f' := (31, [.ref 24, .retAddr 0, .retAddr 0, .retAddr 0, .retAddr 0], [.int (nI (2 ^ n - 1))], MW A (upB B 27 (armA n nb (B 27))) F true, 0, 0)) rfl ?_
  refine wp_go (f' := (33, [.ref 24, .retAddr 0, .retAddr 0, .retAddr 0, .retAddr 0], [.int ((nI (2 ^ n - 1)) >>> ((nI 1) &&& 31))], MW A (upB B 27 (armA n nb (B 27))) F true, 0, 0)) 2 rfl ?_
  rw [half_all hn (by omega)]
  refine wp_go (f' := (40, [.ref 24, .int (nI (2 ^ (n - 1) - 1)), .retAddr 0, .retAddr 0, .retAddr 0], [.long 1, .int (nI 0), .ref 26], MW A (upB B 27 (armA n nb (B 27))) F true, 0, 0)) 5 rfl ?_
  refine wp_last rfl rfl (by omega) (by decide) ?_
  refine wp_eq (f' := (41, [.ref 24, .int (nI (2 ^ (n - 1) - 1)), .retAddr 0, .retAddr 0, .retAddr 0], [], MW A (upB (upB B 27 (armA n nb (B 27))) 25 (vp_updL (B 25) 0 1)) F true, 0, 0)) rfl ?_
  refine wp_go (f' := (43, [.ref 24, .int (nI (2 ^ (n - 1) - 1)), .int (nI 1), .retAddr 0, .retAddr 0], [], MW A (upB (upB B 27 (armA n nb (B 27))) 25 (vp_updL (B 25) 0 1)) F true, 0, 0)) 2 rfl ?_
  refine for_ind (P := fun (k : Nat) (f : Nat → Int64) => mv_Wp xs Ls 4 0 false (some .long) mv_c68 (43, [.ref 24, .int (nI (2 ^ (n - 1) - 1)), .int (nI (k + 1)), .retAddr 0, .retAddr 0], [], MW A (upB (upB B 27 (armA n nb (B 27))) 25 f) F true, 0, 0) (some (.long (wayT (wayG (armA n nb (B 27)) n (B 25)) n / 2)), MW A (upB (upB B 27 (armA n nb (B 27))) 25 (wayG (armA n nb (B 27)) n (B 25))) F true, 0, 0)) (f := fun k f => vp_updL f (k + 1) (armT (armA n nb (B 27)) (k + 1) (2 ^ (n - 1) - 1))) (n := 2 ^ (n - 1) - 1) ?_ (2 ^ (n - 1) - 1) (vp_updL (B 25) 0 1) (Nat.le_refl _) ?_
  · intro k f hk ih
    refine wp_go (f' := ((if (nI (2 ^ (n - 1) - 1)) < (nI (k + 1)) then 66 else 48), [.ref 24, .int (nI (2 ^ (n - 1) - 1)), .int (nI (k + 1)), .retAddr 0, .retAddr 0], [], MW A (upB (upB B 27 (armA n nb (B 27))) 25 f) F true, 0, 0)) 3 rfl ?_
    refine wp_ite (fun h9 => absurd h9 (nI_nlt (by omega) (by omega))) (fun _ => ?_)
    refine wp_go (f' := (56, [.ref 24, .int (nI (2 ^ (n - 1) - 1)), .int (nI (k + 1)), .retAddr 0, .retAddr 0], [.int (nI (2 ^ (n - 1) - 1)), .int (nI (k + 1)), .ref 24, .int (nI (k + 1)), .ref 26], MW A (upB (upB B 27 (armA n nb (B 27))) 25 f) F true, 0, 0)) 6 rfl ?_
    refine wp_call rfl rfl rfl (ev_up (ev_cArms (B := upB (upB B 27 (armA n nb (B 27))) 25 f) (s := k + 1) (e := 2 ^ (n - 1) - 1) (by omega)) (by decide)) ?_
    refine wp_eq (f' := (59, [.ref 24, .int (nI (2 ^ (n - 1) - 1)), .int (nI (k + 1)), .retAddr 0, .retAddr 0], [.long (armT (armA n nb (B 27)) (k + 1) (2 ^ (n - 1) - 1)), .int (nI (k + 1)), .ref 26], MW A (upB (upB B 27 (armA n nb (B 27))) 25 f) F true, 0, 0)) rfl ?_
    refine wp_last rfl rfl (by omega) (by decide) ?_
    refine wp_eq (f' := (60, [.ref 24, .int (nI (2 ^ (n - 1) - 1)), .int (nI (k + 1)), .retAddr 0, .retAddr 0], [], MW A (upB (upB B 27 (armA n nb (B 27))) 25 (vp_updL f (k + 1) (armT (armA n nb (B 27)) (k + 1) (2 ^ (n - 1) - 1)))) F true, 0, 0)) rfl ?_
    refine wp_go (f' := (63, [.ref 24, .int (nI (2 ^ (n - 1) - 1)), .int ((nI (k + 1)) + 1), .retAddr 0, .retAddr 0], [], MW A (upB (upB B 27 (armA n nb (B 27))) 25 (vp_updL f (k + 1) (armT (armA n nb (B 27)) (k + 1) (2 ^ (n - 1) - 1)))) F true, 0, 0)) 1 rfl ?_
    rw [nI_1]
    refine wp_go (f' := (43, [.ref 24, .int (nI (2 ^ (n - 1) - 1)), .int (nI ((k + 1) + 1)), .retAddr 0, .retAddr 0], [], MW A (upB (upB B 27 (armA n nb (B 27))) 25 (vp_updL f (k + 1) (armT (armA n nb (B 27)) (k + 1) (2 ^ (n - 1) - 1)))) F true, 0, 0)) 1 rfl ?_
    exact ih
  · skip
    refine wp_go (f' := ((if (nI (2 ^ (n - 1) - 1)) < (nI (2 ^ (n - 1) - 1 + 1)) then 66 else 48), [.ref 24, .int (nI (2 ^ (n - 1) - 1)), .int (nI (2 ^ (n - 1) - 1 + 1)), .retAddr 0, .retAddr 0], [], MW A (upB (upB B 27 (armA n nb (B 27))) 25 (wayG (armA n nb (B 27)) n (B 25))) F true, 0, 0)) 3 rfl ?_
    refine wp_ite (fun _ => ?_) (fun h9 => absurd (nI_lt (by omega) (by omega)) h9)
    refine wp_go (f' := (71, [.ref 24, .int (nI (2 ^ (n - 1) - 1)), .long 0, .retAddr 0, .int (nI 0)], [], MW A (upB (upB B 27 (armA n nb (B 27))) 25 (wayG (armA n nb (B 27)) n (B 25))) F true, 0, 0)) 4 rfl ?_
    refine for_ind (P := fun (k : Nat) (a : Int64) => mv_Wp xs Ls 4 0 false (some .long) mv_c68 (71, [.ref 24, .int (nI (2 ^ (n - 1) - 1)), .long a, .retAddr 0, .int (nI k)], [], MW A (upB (upB B 27 (armA n nb (B 27))) 25 (wayG (armA n nb (B 27)) n (B 25))) F true, 0, 0) (some (.long (wayT (wayG (armA n nb (B 27)) n (B 25)) n / 2)), MW A (upB (upB B 27 (armA n nb (B 27))) 25 (wayG (armA n nb (B 27)) n (B 25))) F true, 0, 0)) (f := fun k a => a + (wayG (armA n nb (B 27)) n (B 25)) k * (wayG (armA n nb (B 27)) n (B 25)) (sd (2 ^ (n - 1) - 1) k)) (n := 2 ^ (n - 1)) ?_ (2 ^ (n - 1)) 0 (Nat.le_refl _) ?_
    · intro k a hk ih
      have hsd := sd_le (a := 2 ^ (n - 1) - 1) (b := k)
      refine wp_go (f' := ((if (nI (2 ^ (n - 1) - 1)) < (nI k) then 105 else 77), [.ref 24, .int (nI (2 ^ (n - 1) - 1)), .long a, .retAddr 0, .int (nI k)], [], MW A (upB (upB B 27 (armA n nb (B 27))) 25 (wayG (armA n nb (B 27)) n (B 25))) F true, 0, 0)) 3 rfl ?_
      refine wp_ite (fun h9 => absurd h9 (nI_nlt (by omega) (by omega))) (fun _ => ?_)
      refine wp_go (f' := (84, [.ref 24, .int (nI (2 ^ (n - 1) - 1)), .long a, .retAddr 0, .int (nI k)], [.int (nI k), .ref 26, .long a], MW A (upB (upB B 27 (armA n nb (B 27))) 25 (wayG (armA n nb (B 27)) n (B 25))) F true, 0, 0)) 4 rfl ?_
      refine wp_lald rfl rfl (by omega) (by decide) ?_
      refine wp_eq (f' := (85, [.ref 24, .int (nI (2 ^ (n - 1) - 1)), .long a, .retAddr 0, .int (nI k)], [.long ((wayG (armA n nb (B 27)) n (B 25)) k), .long a], MW A (upB (upB B 27 (armA n nb (B 27))) 25 (wayG (armA n nb (B 27)) n (B 25))) F true, 0, 0)) rfl ?_
      refine wp_go (f' := (95, [.ref 24, .int (nI (2 ^ (n - 1) - 1)), .long a, .retAddr 0, .int (nI k)], [.int ((nI (2 ^ (n - 1) - 1)) &&& ((nI k) ^^^ (-1))), .ref 26, .long ((wayG (armA n nb (B 27)) n (B 25)) k), .long a], MW A (upB (upB B 27 (armA n nb (B 27))) 25 (wayG (armA n nb (B 27)) n (B 25))) F true, 0, 0)) 7 rfl ?_
      rw [bx_sd (by omega)]
      refine wp_lald rfl rfl (by omega) (by decide) ?_
      refine wp_eq (f' := (96, [.ref 24, .int (nI (2 ^ (n - 1) - 1)), .long a, .retAddr 0, .int (nI k)], [.long ((wayG (armA n nb (B 27)) n (B 25)) (sd (2 ^ (n - 1) - 1) k)), .long ((wayG (armA n nb (B 27)) n (B 25)) k), .long a], MW A (upB (upB B 27 (armA n nb (B 27))) 25 (wayG (armA n nb (B 27)) n (B 25))) F true, 0, 0)) rfl ?_
      refine wp_go (f' := (102, [.ref 24, .int (nI (2 ^ (n - 1) - 1)), .long (a + (((wayG (armA n nb (B 27)) n (B 25)) k) * ((wayG (armA n nb (B 27)) n (B 25)) (sd (2 ^ (n - 1) - 1) k)))), .retAddr 0, .int ((nI k) + 1)], [], MW A (upB (upB B 27 (armA n nb (B 27))) 25 (wayG (armA n nb (B 27)) n (B 25))) F true, 0, 0)) 4 rfl ?_
      rw [nI_1]
      refine wp_go (f' := (71, [.ref 24, .int (nI (2 ^ (n - 1) - 1)), .long (a + (((wayG (armA n nb (B 27)) n (B 25)) k) * ((wayG (armA n nb (B 27)) n (B 25)) (sd (2 ^ (n - 1) - 1) k)))), .retAddr 0, .int (nI (k + 1))], [], MW A (upB (upB B 27 (armA n nb (B 27))) 25 (wayG (armA n nb (B 27)) n (B 25))) F true, 0, 0)) 1 rfl ?_
      exact ih
    · skip
      refine wp_go (f' := ((if (nI (2 ^ (n - 1) - 1)) < (nI (2 ^ (n - 1))) then 105 else 77), [.ref 24, .int (nI (2 ^ (n - 1) - 1)), .long (wayT (wayG (armA n nb (B 27)) n (B 25)) n), .retAddr 0, .int (nI (2 ^ (n - 1)))], [], MW A (upB (upB B 27 (armA n nb (B 27))) 25 (wayG (armA n nb (B 27)) n (B 25))) F true, 0, 0)) 3 rfl ?_
      refine wp_ite (fun _ => ?_) (fun h9 => absurd (nI_lt (by omega) (by omega)) h9)
      refine wp_go (f' := (110, [.ref 24, .int (nI (2 ^ (n - 1) - 1)), .long (wayT (wayG (armA n nb (B 27)) n (B 25)) n), .retAddr 0, .int (nI (2 ^ (n - 1)))], [.long ((wayT (wayG (armA n nb (B 27)) n (B 25)) n) / 2)], MW A (upB (upB B 27 (armA n nb (B 27))) 25 (wayG (armA n nb (B 27)) n (B 25))) F true, 0, 0)) 3 rfl ?_
      exact wp_lret rfl
theorem ev_cWays (hC : CI A F n nb) (hR : RI A n nb) (h2 : 2 ≤ n) : mv_Ev xs Ls 5 68 [.ref 24] (MW A B F sw) (some (.long (wayT (wayG (armA n nb (B 27)) n (B 25)) n / 2)), MW A (upB (upB B 27 (armA n nb (B 27))) 25 (wayG (armA n nb (B 27)) n (B 25))) F sw, 0, 0) := by
  cases sw
  · exact ev_cWays_f hC hR h2
  · exact ev_cWays_t hC hR h2
theorem ev_cWays0 (hC : CI A F n nb) (hR : RI A n nb) (h2 : n < 2) : mv_Ev xs Ls 5 68 [.ref 24] (MW A B F sw) (some (.long (nI n).toInt64), MW A B F sw, 0, 0) := by
  refine ev_of_wp rfl rfl rfl ?_
  refine wp_go (f' := (7, [.ref 24, .retAddr 0, .retAddr 0, .retAddr 0, .retAddr 0], [.int (F 0)], MW A B F sw, 0, 0)) 3 rfl ?_
  rw [hC.2.1]
  refine wp_go (f' := ((if (nI 2) ≤ (nI n) then 20 else 11), [.ref 24, .retAddr 0, .retAddr 0, .retAddr 0, .retAddr 0], [], MW A B F sw, 0, 0)) 2 rfl ?_
  refine wp_ite (fun h9 => absurd h9 (nI_ge (by omega) (by omega))) (fun _ => ?_)
  refine wp_go (f' := (18, [.ref 24, .retAddr 0, .retAddr 0, .retAddr 0, .retAddr 0], [.int (F 0)], MW A B F sw, 0, 0)) 3 rfl ?_
  rw [hC.2.1]
  refine wp_go (f' := (19, [.ref 24, .retAddr 0, .retAddr 0, .retAddr 0, .retAddr 0], [.long ((nI n).toInt64)], MW A B F sw, 0, 0)) 1 rfl ?_
  exact wp_lret rfl
end CC
