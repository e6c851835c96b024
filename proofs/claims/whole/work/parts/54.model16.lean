/-! ways of the reference -/
def rwI (n : Nat) (ring : Bool) (f : Nat → Int64) : Nat → Int64 := forN (fun v f => vp_updL f (10 * 2 ^ v + v) (if ring = false ∨ v = 0 then 1 else 0)) n (forN (fun k f => vp_updL f k 0) 10240 f)
/-- one more vertex behind v, for each way that ends there -/
def rwW (nb : Nat → Nat) (s v : Nat) (x : Int64) : Nat → (Nat → Int64) → (Nat → Int64) := fun w f => if (nb v).testBit w = true ∧ s.testBit w = false then vp_updL f (10 * (s ||| 2 ^ w) + w) (f (10 * (s ||| 2 ^ w) + w) + x) else f
def rwV (n : Nat) (nb : Nat → Nat) (ring : Bool) (s : Nat) : Nat → ((Nat → Int64) × Int64) → ((Nat → Int64) × Int64) := fun v q => (forN (rwW nb s v (q.1 (10 * s + v))) n q.1, q.2 + (if s = 2 ^ n - 1 ∧ (ring = false ∨ (nb v).testBit 0 = true) then q.1 (10 * s + v) else 0))
def rwS (n : Nat) (nb : Nat → Nat) (ring : Bool) : Nat → ((Nat → Int64) × Int64) → ((Nat → Int64) × Int64) := fun k q => forN (rwV n nb ring (k + 1)) n q
def rwN (n : Nat) (nb : Nat → Nat) (ring : Bool) (f : Nat → Int64) : (Nat → Int64) × Int64 := forN (rwS n nb ring) (2 ^ n - 1) (rwI n ring f, 0)
theorem vpu_same {f : Nat → Int64} {i : Nat} : vp_updL f i (f i + 0) = f := by
  funext j
  unfold vp_updL
  split
  · rename_i h; rw [h]; simp
  · rfl
theorem rwW_0 {n : Nat} {nb : Nat → Nat} {s v : Nat} {f : Nat → Int64} : forN (rwW nb s v 0) n f = f := by
  refine forN_inv (I := fun _ (g : Nat → Int64) => g = f) rfl (fun k g hk hg => ?_) n (Nat.le_refl _)
  rw [hg]
  unfold rwW
  rw [vpu_same]
  split <;> rfl
section MM
variable {xs : Nat → Int32} {Ls : Nat} {A : Nat → Nat → Int32} {B : Nat → Nat → Int64} {F : Nat → Int32} {sw : Bool} {n : Nat} {nb : Nat → Nat}
theorem ev_ways0 (hM : MI A F n nb) (h1 : 1 ≤ n) : mv_Ev xs Ls 4 124 [.ref 28, .int (nI 0)] (MW A B F sw) (some (.long ((rwN n nb false (B 40)).2 / 2)), MW A (upB B 40 (rwN n nb false (B 40)).1) F sw, 0, 0) := by
  refine ev_of_wp rfl rfl rfl ?_
  have hn := hM.1
  have hp := pow10 hn
  have hp1 : 1 ≤ 2 ^ n := Nat.one_le_two_pow
  have hal := all_lt hn
  refine wp_go (f' := (2, [.ref 28, .int (nI 0), .int (nI 0), .retAddr 0, .retAddr 0, .retAddr 0, .retAddr 0, .retAddr 0, .retAddr 0], [], MW A B F sw, 0, 0)) 2 rfl ?_
  refine wp_eq (f' := (2, [.ref 28, .int (nI 0), .int (nI 0), .retAddr 0, .retAddr 0, .retAddr 0, .retAddr 0, .retAddr 0, .retAddr 0], [], MW A (upB B 40 (B 40)) F sw, 0, 0)) rfl ?_
  refine for_ind (P := fun (k : Nat) (f : Nat → Int64) => mv_Wp xs Ls 3 6 false (some .long) mv_c124 (2, [.ref 28, .int (nI 0), .int (nI k), .retAddr 0, .retAddr 0, .retAddr 0, .retAddr 0, .retAddr 0, .retAddr 0], [], MW A (upB B 40 f) F sw, 0, 0) (some (.long ((rwN n nb false (B 40)).2 / 2)), MW A (upB B 40 (rwN n nb false (B 40)).1) F sw, 0, 0)) (f := fun k f => vp_updL f k 0) (n := 10240) ?_ 10240 (B 40) (Nat.le_refl _) ?_
  · intro k f hk ih
    refine wp_go (f' := ((if (nI 10240) ≤ (nI k) then 22 else 9), [.ref 28, .int (nI 0), .int (nI k), .retAddr 0, .retAddr 0, .retAddr 0, .retAddr 0, .retAddr 0, .retAddr 0], [], MW A (upB B 40 f) F sw, 0, 0)) 3 rfl ?_
    refine wp_ite (fun h9 => absurd h9 (nI_ge hk (by omega))) (fun _ => ?_)
    refine wp_go (f' := (15, [.ref 28, .int (nI 0), .int (nI k), .retAddr 0, .retAddr 0, .retAddr 0, .retAddr 0, .retAddr 0, .retAddr 0], [.long 0, .int (nI k), .ref 40], MW A (upB B 40 f) F sw, 0, 0)) 4 rfl ?_
    refine wp_last rfl rfl (by omega) (by decide) ?_
    refine wp_eq (f' := (16, [.ref 28, .int (nI 0), .int (nI k), .retAddr 0, .retAddr 0, .retAddr 0, .retAddr 0, .retAddr 0, .retAddr 0], [], MW A (upB B 40 (vp_updL f k 0)) F sw, 0, 0)) rfl ?_
    refine wp_go (f' := (19, [.ref 28, .int (nI 0), .int ((nI k) + 1), .retAddr 0, .retAddr 0, .retAddr 0, .retAddr 0, .retAddr 0, .retAddr 0], [], MW A (upB B 40 (vp_updL f k 0)) F sw, 0, 0)) 1 rfl ?_
    rw [nI_1]
    refine wp_go (f' := (2, [.ref 28, .int (nI 0), .int (nI (k + 1)), .retAddr 0, .retAddr 0, .retAddr 0, .retAddr 0, .retAddr 0, .retAddr 0], [], MW A (upB B 40 (vp_updL f k 0)) F sw, 0, 0)) 1 rfl ?_
    exact ih
  · skip
    refine wp_go (f' := ((if (nI 10240) ≤ (nI 10240) then 22 else 9), [.ref 28, .int (nI 0), .int (nI 10240), .retAddr 0, .retAddr 0, .retAddr 0, .retAddr 0, .retAddr 0, .retAddr 0], [], MW A (upB B 40 (forN (fun k f => vp_updL f k 0) 10240 (B 40))) F sw, 0, 0)) 3 rfl ?_
    refine wp_ite (fun _ => ?_) (fun h9 => absurd (nI_le (Nat.le_refl _) (by omega)) h9)
    refine wp_go (f' := (24, [.ref 28, .int (nI 0), .int (nI 0), .retAddr 0, .retAddr 0, .retAddr 0, .retAddr 0, .retAddr 0, .retAddr 0], [], MW A (upB B 40 (forN (fun k f => vp_updL f k 0) 10240 (B 40))) F sw, 0, 0)) 2 rfl ?_
    refine for_ind (P := fun (v : Nat) (f : Nat → Int64) => mv_Wp xs Ls 3 6 false (some .long) mv_c124 (24, [.ref 28, .int (nI 0), .int (nI v), .retAddr 0, .retAddr 0, .retAddr 0, .retAddr 0, .retAddr 0, .retAddr 0], [], MW A (upB B 40 f) F sw, 0, 0) (some (.long ((rwN n nb false (B 40)).2 / 2)), MW A (upB B 40 (rwN n nb false (B 40)).1) F sw, 0, 0)) (f := fun v f => vp_updL f (10 * 2 ^ v + v) (if false = false ∨ v = 0 then 1 else 0)) (n := n) ?_ n (forN (fun k f => vp_updL f k 0) 10240 (B 40)) (Nat.le_refl _) ?_
    · intro v f hk ih
      have hpv : 2 ^ v < 1024 := pow_lt (by omega)
      refine wp_go (f' := (29, [.ref 28, .int (nI 0), .int (nI v), .retAddr 0, .retAddr 0, .retAddr 0, .retAddr 0, .retAddr 0, .retAddr 0], [.int (F 6), .int (nI v)], MW A (upB B 40 f) F sw, 0, 0)) 3 rfl ?_
      rw [hM.2.1]
      refine wp_go (f' := ((if (nI n) ≤ (nI v) then 64 else 32), [.ref 28, .int (nI 0), .int (nI v), .retAddr 0, .retAddr 0, .retAddr 0, .retAddr 0, .retAddr 0, .retAddr 0], [], MW A (upB B 40 f) F sw, 0, 0)) 1 rfl ?_
      refine wp_ite (fun h9 => absurd h9 (nI_ge hk (by omega))) (fun _ => ?_)
      refine wp_go (f' := (41, [.ref 28, .int (nI 0), .int (nI v), .retAddr 0, .retAddr 0, .retAddr 0, .retAddr 0, .retAddr 0, .retAddr 0], [.int ((nI 1) <<< ((nI v) &&& 31)), .int (nI 10), .ref 40], MW A (upB B 40 f) F sw, 0, 0)) 6 rfl ?_
      rw [bx_one (by omega)]
      refine wp_go (f' := (42, [.ref 28, .int (nI 0), .int (nI v), .retAddr 0, .retAddr 0, .retAddr 0, .retAddr 0, .retAddr 0, .retAddr 0], [.int ((nI 10) * (nI (2 ^ v))), .ref 40], MW A (upB B 40 f) F sw, 0, 0)) 1 rfl ?_
      rw [nI_mul]
      refine wp_go (f' := (44, [.ref 28, .int (nI 0), .int (nI v), .retAddr 0, .retAddr 0, .retAddr 0, .retAddr 0, .retAddr 0, .retAddr 0], [.int ((nI (10 * (2 ^ v))) + (nI v)), .ref 40], MW A (upB B 40 f) F sw, 0, 0)) 2 rfl ?_
      rw [nI_add]
      refine wp_go (f' := ((if (nI 0) = 0 then 52 else 48), [.ref 28, .int (nI 0), .int (nI v), .retAddr 0, .retAddr 0, .retAddr 0, .retAddr 0, .retAddr 0, .retAddr 0], [.int (nI ((10 * (2 ^ v)) + v)), .ref 40], MW A (upB B 40 f) F sw, 0, 0)) 2 rfl ?_
      refine wp_ite (fun _ => ?_) (fun h9 => absurd rfl h9)
      refine wp_go (f' := (57, [.ref 28, .int (nI 0), .int (nI v), .retAddr 0, .retAddr 0, .retAddr 0, .retAddr 0, .retAddr 0, .retAddr 0], [.long 1, .int (nI ((10 * (2 ^ v)) + v)), .ref 40], MW A (upB B 40 f) F sw, 0, 0)) 2 rfl ?_
      refine wp_last rfl rfl (by omega) (by decide) ?_
      refine wp_eq (f' := (58, [.ref 28, .int (nI 0), .int (nI v), .retAddr 0, .retAddr 0, .retAddr 0, .retAddr 0, .retAddr 0, .retAddr 0], [], MW A (upB B 40 (vp_updL f ((10 * (2 ^ v)) + v) 1)) F sw, 0, 0)) rfl ?_
      refine wp_go (f' := (61, [.ref 28, .int (nI 0), .int ((nI v) + 1), .retAddr 0, .retAddr 0, .retAddr 0, .retAddr 0, .retAddr 0, .retAddr 0], [], MW A (upB B 40 (vp_updL f ((10 * (2 ^ v)) + v) 1)) F sw, 0, 0)) 1 rfl ?_
      rw [nI_1]
      refine wp_go (f' := (24, [.ref 28, .int (nI 0), .int (nI (v + 1)), .retAddr 0, .retAddr 0, .retAddr 0, .retAddr 0, .retAddr 0, .retAddr 0], [], MW A (upB B 40 (vp_updL f ((10 * (2 ^ v)) + v) 1)) F sw, 0, 0)) 1 rfl ?_
      have e1 : (if false = false ∨ v = 0 then (1 : Int64) else 0) = 1 := if_pos (Or.inl rfl)
      rw [e1] at ih
      exact ih
    · skip
      refine wp_go (f' := (29, [.ref 28, .int (nI 0), .int (nI n), .retAddr 0, .retAddr 0, .retAddr 0, .retAddr 0, .retAddr 0, .retAddr 0], [.int (F 6), .int (nI n)], MW A (upB B 40 (rwI n false (B 40))) F sw, 0, 0)) 3 rfl ?_
      rw [hM.2.1]
      refine wp_go (f' := ((if (nI n) ≤ (nI n) then 64 else 32), [.ref 28, .int (nI 0), .int (nI n), .retAddr 0, .retAddr 0, .retAddr 0, .retAddr 0, .retAddr 0, .retAddr 0], [], MW A (upB B 40 (rwI n false (B 40))) F sw, 0, 0)) 1 rfl ?_
      refine wp_ite (fun _ => ?_) (fun h9 => absurd (nI_le (Nat.le_refl _) (by omega)) h9)
      refine wp_go (f' := (69, [.ref 28, .int (nI 0), .long 0, .retAddr 0, .int (nI 1), .retAddr 0, .retAddr 0, .retAddr 0, .retAddr 0], [], MW A (upB B 40 (rwI n false (B 40))) F sw, 0, 0)) 4 rfl ?_
      refine for_ind (P := fun (k : Nat) (q : (Nat → Int64) × Int64) => ∀ e5 e6 e7 e8 : Value, mv_Wp xs Ls 3 6 false (some .long) mv_c124 (69, [.ref 28, .int (nI 0), .long q.2, .retAddr 0, .int (nI (k + 1)), e5, e6, e7, e8], [], MW A (upB B 40 q.1) F sw, 0, 0) (some (.long ((rwN n nb false (B 40)).2 / 2)), MW A (upB B 40 (rwN n nb false (B 40)).1) F sw, 0, 0)) (f := rwS n nb false) (n := 2 ^ n - 1) ?_ (2 ^ n - 1) ((rwI n false (B 40)), 0) (Nat.le_refl _) ?_ _ _ _ _
      · intro k q hk ih e5 e6 e7 e8
        refine wp_go (f' := (72, [.ref 28, .int (nI 0), .long q.2, .retAddr 0, .int (nI (k + 1)), e5, e6, e7, e8], [.ref 28, .int (nI (k + 1))], MW A (upB B 40 q.1) F sw, 0, 0)) 2 rfl ?_
        refine wp_call rfl rfl rfl (ev_up (ev_all hM) (by decide)) ?_
        refine wp_eq (f' := (75, [.ref 28, .int (nI 0), .long q.2, .retAddr 0, .int (nI (k + 1)), e5, e6, e7, e8], [.int (nI (2 ^ n - 1)), .int (nI (k + 1))], MW A (upB B 40 q.1) F sw, 0, 0)) rfl ?_
        refine wp_go (f' := ((if (nI (2 ^ n - 1)) < (nI (k + 1)) then 218 else 78), [.ref 28, .int (nI 0), .long q.2, .retAddr 0, .int (nI (k + 1)), e5, e6, e7, e8], [], MW A (upB B 40 q.1) F sw, 0, 0)) 1 rfl ?_
        refine wp_ite (fun h9 => absurd h9 (nI_nlt (by omega) (by omega))) (fun _ => ?_)
        refine wp_go (f' := (81, [.ref 28, .int (nI 0), .long q.2, .retAddr 0, .int (nI (k + 1)), .int (nI 0), e6, e7, e8], [], MW A (upB B 40 q.1) F sw, 0, 0)) 2 rfl ?_
        refine for_ind (P := fun (v : Nat) (u : (Nat → Int64) × Int64) => ∀ e6 e7 e8 : Value, mv_Wp xs Ls 3 6 false (some .long) mv_c124 (81, [.ref 28, .int (nI 0), .long u.2, .retAddr 0, .int (nI (k + 1)), .int (nI v), e6, e7, e8], [], MW A (upB B 40 u.1) F sw, 0, 0) (some (.long ((rwN n nb false (B 40)).2 / 2)), MW A (upB B 40 (rwN n nb false (B 40)).1) F sw, 0, 0)) (f := rwV n nb false (k + 1)) (n := n) ?_ n q (Nat.le_refl _) ?_ _ _ _
        · intro v u hv ih2 e6 e7 e8
          refine wp_go (f' := (87, [.ref 28, .int (nI 0), .long u.2, .retAddr 0, .int (nI (k + 1)), .int (nI v), e6, e7, e8], [.int (F 6), .int (nI v)], MW A (upB B 40 u.1) F sw, 0, 0)) 3 rfl ?_
          rw [hM.2.1]
          refine wp_go (f' := ((if (nI n) ≤ (nI v) then 212 else 90), [.ref 28, .int (nI 0), .long u.2, .retAddr 0, .int (nI (k + 1)), .int (nI v), e6, e7, e8], [], MW A (upB B 40 u.1) F sw, 0, 0)) 1 rfl ?_
          refine wp_ite (fun h9 => absurd h9 (nI_ge hv (by omega))) (fun _ => ?_)
          refine wp_go (f' := (99, [.ref 28, .int (nI 0), .long u.2, .retAddr 0, .int (nI (k + 1)), .int (nI v), e6, e7, e8], [.int ((nI 10) * (nI (k + 1))), .ref 40], MW A (upB B 40 u.1) F sw, 0, 0)) 5 rfl ?_
          rw [nI_mul]
          refine wp_go (f' := (102, [.ref 28, .int (nI 0), .long u.2, .retAddr 0, .int (nI (k + 1)), .int (nI v), e6, e7, e8], [.int ((nI (10 * (k + 1))) + (nI v)), .ref 40], MW A (upB B 40 u.1) F sw, 0, 0)) 2 rfl ?_
          rw [nI_add]
          refine wp_lald rfl rfl (by omega) (by decide) ?_
          refine wp_eq (f' := (103, [.ref 28, .int (nI 0), .long u.2, .retAddr 0, .int (nI (k + 1)), .int (nI v), e6, e7, e8], [.long (u.1 ((10 * (k + 1)) + v))], MW A (upB B 40 u.1) F sw, 0, 0)) rfl ?_
          refine wp_go (f' := (108, [.ref 28, .int (nI 0), .long u.2, .retAddr 0, .int (nI (k + 1)), .int (nI v), .long (u.1 ((10 * (k + 1)) + v)), .retAddr 0, .int (nI 0)], [], MW A (upB B 40 u.1) F sw, 0, 0)) 3 rfl ?_
          have hfin : ∀ e8 : Value, mv_Wp xs Ls 3 6 false (some .long) mv_c124 (174, [.ref 28, .int (nI 0), .long u.2, .retAddr 0, .int (nI (k + 1)), .int (nI v), .long (u.1 ((10 * (k + 1)) + v)), .retAddr 0, e8], [], MW A (upB B 40 (forN (rwW nb (k + 1) v (u.1 (10 * (k + 1) + v))) n u.1)) F sw, 0, 0) (some (.long ((rwN n nb false (B 40)).2 / 2)), MW A (upB B 40 (rwN n nb false (B 40)).1) F sw, 0, 0) := by
            intro e8
            refine wp_go (f' := (178, [.ref 28, .int (nI 0), .long u.2, .retAddr 0, .int (nI (k + 1)), .int (nI v), .long (u.1 ((10 * (k + 1)) + v)), .retAddr 0, e8], [.ref 28, .int (nI (k + 1)), .long u.2], MW A (upB B 40 (forN (rwW nb (k + 1) v (u.1 (10 * (k + 1) + v))) n u.1)) F sw, 0, 0)) 3 rfl ?_
            refine wp_call rfl rfl rfl (ev_up (ev_all hM) (by decide)) ?_
            refine wp_eq (f' := (181, [.ref 28, .int (nI 0), .long u.2, .retAddr 0, .int (nI (k + 1)), .int (nI v), .long (u.1 ((10 * (k + 1)) + v)), .retAddr 0, e8], [.int (nI (2 ^ n - 1)), .int (nI (k + 1)), .long u.2], MW A (upB B 40 (forN (rwW nb (k + 1) v (u.1 (10 * (k + 1) + v))) n u.1)) F sw, 0, 0)) rfl ?_
            refine wp_go (f' := ((if ¬ (nI (k + 1)) = (nI (2 ^ n - 1)) then 203 else 184), [.ref 28, .int (nI 0), .long u.2, .retAddr 0, .int (nI (k + 1)), .int (nI v), .long (u.1 ((10 * (k + 1)) + v)), .retAddr 0, e8], [.long u.2], MW A (upB B 40 (forN (rwW nb (k + 1) v (u.1 (10 * (k + 1) + v))) n u.1)) F sw, 0, 0)) 1 rfl ?_
            refine wp_ite (fun h1 => ?_) (fun h1 => ?_)
            · have h1 : ¬ (k + 1 = 2 ^ n - 1) := fun h9 => h1 ((nI_eq (a := k + 1) (b := 2 ^ n - 1) (by omega) (by omega)).mpr h9)
              refine wp_go (f' := (209, [.ref 28, .int (nI 0), .long (u.2 + 0), .retAddr 0, .int (nI (k + 1)), .int ((nI v) + 1), .long (u.1 ((10 * (k + 1)) + v)), .retAddr 0, e8], [], MW A (upB B 40 (forN (rwW nb (k + 1) v (u.1 (10 * (k + 1) + v))) n u.1)) F sw, 0, 0)) 4 rfl ?_
              rw [nI_1]
              refine wp_go (f' := (81, [.ref 28, .int (nI 0), .long (u.2 + 0), .retAddr 0, .int (nI (k + 1)), .int (nI (v + 1)), .long (u.1 ((10 * (k + 1)) + v)), .retAddr 0, e8], [], MW A (upB B 40 (forN (rwW nb (k + 1) v (u.1 (10 * (k + 1) + v))) n u.1)) F sw, 0, 0)) 1 rfl ?_
              have e1 : (if k + 1 = 2 ^ n - 1 ∧ (false = false ∨ (nb v).testBit 0 = true) then (u.1 (10 * (k + 1) + v)) else 0) = 0 := by first | (exfalso; omega) | simp [h1]
              unfold rwV at ih2
              rw [e1] at ih2
              exact ih2 _ _ _
            · have h1 := Classical.not_not.mp h1; have h1 : k + 1 = 2 ^ n - 1 := (nI_eq (a := k + 1) (b := 2 ^ n - 1) (by omega) (by omega)).mp h1
              refine wp_go (f' := ((if (nI 0) = 0 then 198 else 188), [.ref 28, .int (nI 0), .long u.2, .retAddr 0, .int (nI (k + 1)), .int (nI v), .long (u.1 ((10 * (k + 1)) + v)), .retAddr 0, e8], [.long u.2], MW A (upB B 40 (forN (rwW nb (k + 1) v (u.1 (10 * (k + 1) + v))) n u.1)) F sw, 0, 0)) 2 rfl ?_
              refine wp_ite (fun _ => ?_) (fun h9 => absurd rfl h9)
              refine wp_go (f' := (209, [.ref 28, .int (nI 0), .long (u.2 + (u.1 ((10 * (k + 1)) + v))), .retAddr 0, .int (nI (k + 1)), .int ((nI v) + 1), .long (u.1 ((10 * (k + 1)) + v)), .retAddr 0, e8], [], MW A (upB B 40 (forN (rwW nb (k + 1) v (u.1 (10 * (k + 1) + v))) n u.1)) F sw, 0, 0)) 5 rfl ?_
              rw [nI_1]
              refine wp_go (f' := (81, [.ref 28, .int (nI 0), .long (u.2 + (u.1 ((10 * (k + 1)) + v))), .retAddr 0, .int (nI (k + 1)), .int (nI (v + 1)), .long (u.1 ((10 * (k + 1)) + v)), .retAddr 0, e8], [], MW A (upB B 40 (forN (rwW nb (k + 1) v (u.1 (10 * (k + 1) + v))) n u.1)) F sw, 0, 0)) 1 rfl ?_
              have e1 : (if k + 1 = 2 ^ n - 1 ∧ (false = false ∨ (nb v).testBit 0 = true) then (u.1 (10 * (k + 1) + v)) else 0) = (u.1 (10 * (k + 1) + v)) := by first | (exfalso; omega) | simp [h1]
              unfold rwV at ih2
              rw [e1] at ih2
              exact ih2 _ _ _
          by_cases hx0 : (u.1 (10 * (k + 1) + v)) = 0
          · rw [hx0, rwW_0] at hfin
            refine wp_go (f' := (114, [.ref 28, .int (nI 0), .long u.2, .retAddr 0, .int (nI (k + 1)), .int (nI v), .long (u.1 ((10 * (k + 1)) + v)), .retAddr 0, .int (nI 0)], [.int (F 6), .int (nI 0)], MW A (upB B 40 u.1) F sw, 0, 0)) 3 rfl ?_
            rw [hM.2.1]
            refine wp_go (f' := ((if (nI n) ≤ (nI 0) then 174 else 117), [.ref 28, .int (nI 0), .long u.2, .retAddr 0, .int (nI (k + 1)), .int (nI v), .long (u.1 ((10 * (k + 1)) + v)), .retAddr 0, .int (nI 0)], [], MW A (upB B 40 u.1) F sw, 0, 0)) 1 rfl ?_
            refine wp_ite (fun h9 => absurd h9 (nI_ge (a := 0) (b := n) (by omega) (by omega))) (fun _ => ?_)
            refine wp_go (f' := ((if (lg_cmp (u.1 ((10 * (k + 1)) + v)) 0) = 0 then 174 else 124), [.ref 28, .int (nI 0), .long u.2, .retAddr 0, .int (nI (k + 1)), .int (nI v), .long (u.1 ((10 * (k + 1)) + v)), .retAddr 0, .int (nI 0)], [], MW A (upB B 40 u.1) F sw, 0, 0)) 4 rfl ?_
            refine wp_ite (fun _ => ?_) (fun h9 => absurd ((lg_cmp_eq _ _).mpr hx0) h9)
            rw [hx0]
            exact hfin _
          · skip
            refine for_ind (P := fun (w : Nat) (f : Nat → Int64) => mv_Wp xs Ls 3 6 false (some .long) mv_c124 (108, [.ref 28, .int (nI 0), .long u.2, .retAddr 0, .int (nI (k + 1)), .int (nI v), .long (u.1 ((10 * (k + 1)) + v)), .retAddr 0, .int (nI w)], [], MW A (upB B 40 f) F sw, 0, 0) (some (.long ((rwN n nb false (B 40)).2 / 2)), MW A (upB B 40 (rwN n nb false (B 40)).1) F sw, 0, 0)) (f := rwW nb (k + 1) v (u.1 (10 * (k + 1) + v))) (n := n) ?_ n u.1 (Nat.le_refl _) ?_
            · intro w f hw ih3
              have hol : (k + 1) ||| 2 ^ w < 1024 := or_lt (by omega) (pow_lt (by omega))
              refine wp_go (f' := (114, [.ref 28, .int (nI 0), .long u.2, .retAddr 0, .int (nI (k + 1)), .int (nI v), .long (u.1 ((10 * (k + 1)) + v)), .retAddr 0, .int (nI w)], [.int (F 6), .int (nI w)], MW A (upB B 40 f) F sw, 0, 0)) 3 rfl ?_
              rw [hM.2.1]
              refine wp_go (f' := ((if (nI n) ≤ (nI w) then 174 else 117), [.ref 28, .int (nI 0), .long u.2, .retAddr 0, .int (nI (k + 1)), .int (nI v), .long (u.1 ((10 * (k + 1)) + v)), .retAddr 0, .int (nI w)], [], MW A (upB B 40 f) F sw, 0, 0)) 1 rfl ?_
              refine wp_ite (fun h9 => absurd h9 (nI_ge hw (by omega))) (fun _ => ?_)
              refine wp_go (f' := ((if (lg_cmp (u.1 ((10 * (k + 1)) + v)) 0) = 0 then 174 else 124), [.ref 28, .int (nI 0), .long u.2, .retAddr 0, .int (nI (k + 1)), .int (nI v), .long (u.1 ((10 * (k + 1)) + v)), .retAddr 0, .int (nI w)], [], MW A (upB B 40 f) F sw, 0, 0)) 4 rfl ?_
              refine wp_ite (fun h9 => absurd h9 (fun h8 => hx0 ((lg_cmp_eq _ _).mp h8))) (fun _ => ?_)
              refine wp_go (f' := (129, [.ref 28, .int (nI 0), .long u.2, .retAddr 0, .int (nI (k + 1)), .int (nI v), .long (u.1 ((10 * (k + 1)) + v)), .retAddr 0, .int (nI w)], [.int (nI w), .int (nI v), .ref 28], MW A (upB B 40 f) F sw, 0, 0)) 3 rfl ?_
              refine wp_call rfl rfl rfl (ev_up (ev_isEdge hM v w (by omega) (by omega)) (by decide)) ?_
              refine wp_eq (f' := (132, [.ref 28, .int (nI 0), .long u.2, .retAddr 0, .int (nI (k + 1)), .int (nI v), .long (u.1 ((10 * (k + 1)) + v)), .retAddr 0, .int (nI w)], [.int (bI ((nb v).testBit w))], MW A (upB B 40 f) F sw, 0, 0)) rfl ?_
              refine wp_go (f' := ((if (bI ((nb v).testBit w)) = 0 then 168 else 135), [.ref 28, .int (nI 0), .long u.2, .retAddr 0, .int (nI (k + 1)), .int (nI v), .long (u.1 ((10 * (k + 1)) + v)), .retAddr 0, .int (nI w)], [], MW A (upB B 40 f) F sw, 0, 0)) 1 rfl ?_
              refine wp_ite (fun h1 => ?_) (fun h1 => ?_)
              · have h1 := bI_0.mp h1
                refine wp_go (f' := (171, [.ref 28, .int (nI 0), .long u.2, .retAddr 0, .int (nI (k + 1)), .int (nI v), .long (u.1 ((10 * (k + 1)) + v)), .retAddr 0, .int ((nI w) + 1)], [], MW A (upB B 40 f) F sw, 0, 0)) 1 rfl ?_
                rw [nI_1]
                refine wp_go (f' := (108, [.ref 28, .int (nI 0), .long u.2, .retAddr 0, .int (nI (k + 1)), .int (nI v), .long (u.1 ((10 * (k + 1)) + v)), .retAddr 0, .int (nI (w + 1))], [], MW A (upB B 40 f) F sw, 0, 0)) 1 rfl ?_
                have e1 : rwW nb (k + 1) v (u.1 (10 * (k + 1) + v)) w f = f := by unfold rwW; exact if_neg (fun h8 => by simp [h1] at h8)
                rw [e1] at ih3
                exact ih3
              · have h1 := bI_n0 h1
                refine wp_go (f' := (142, [.ref 28, .int (nI 0), .long u.2, .retAddr 0, .int (nI (k + 1)), .int (nI v), .long (u.1 ((10 * (k + 1)) + v)), .retAddr 0, .int (nI w)], [.int (((nI (k + 1)) >>> ((nI w) &&& 31)) &&& (nI 1))], MW A (upB B 40 f) F sw, 0, 0)) 5 rfl ?_
                rw [bx_bit (by omega) (by omega)]
                refine wp_go (f' := ((if ¬ (bI ((k + 1).testBit w)) = 0 then 168 else 145), [.ref 28, .int (nI 0), .long u.2, .retAddr 0, .int (nI (k + 1)), .int (nI v), .long (u.1 ((10 * (k + 1)) + v)), .retAddr 0, .int (nI w)], [], MW A (upB B 40 f) F sw, 0, 0)) 1 rfl ?_
                refine wp_ite (fun h2 => ?_) (fun h2 => ?_)
                · have h2 := bI_n0 h2
                  refine wp_go (f' := (171, [.ref 28, .int (nI 0), .long u.2, .retAddr 0, .int (nI (k + 1)), .int (nI v), .long (u.1 ((10 * (k + 1)) + v)), .retAddr 0, .int ((nI w) + 1)], [], MW A (upB B 40 f) F sw, 0, 0)) 1 rfl ?_
                  rw [nI_1]
                  refine wp_go (f' := (108, [.ref 28, .int (nI 0), .long u.2, .retAddr 0, .int (nI (k + 1)), .int (nI v), .long (u.1 ((10 * (k + 1)) + v)), .retAddr 0, .int (nI (w + 1))], [], MW A (upB B 40 f) F sw, 0, 0)) 1 rfl ?_
                  have e1 : rwW nb (k + 1) v (u.1 (10 * (k + 1) + v)) w f = f := by unfold rwW; exact if_neg (fun h8 => by simp [h1, h2] at h8)
                  rw [e1] at ih3
                  exact ih3
                · have h2 := Classical.not_not.mp h2; have h2 := bI_0.mp h2
                  refine wp_go (f' := (157, [.ref 28, .int (nI 0), .long u.2, .retAddr 0, .int (nI (k + 1)), .int (nI v), .long (u.1 ((10 * (k + 1)) + v)), .retAddr 0, .int (nI w)], [.int ((nI 1) <<< ((nI w) &&& 31)), .int (nI (k + 1)), .int (nI 10), .ref 40], MW A (upB B 40 f) F sw, 0, 0)) 7 rfl ?_
                  rw [bx_one (by omega)]
                  refine wp_go (f' := (158, [.ref 28, .int (nI 0), .long u.2, .retAddr 0, .int (nI (k + 1)), .int (nI v), .long (u.1 ((10 * (k + 1)) + v)), .retAddr 0, .int (nI w)], [.int ((nI (k + 1)) ||| (nI (2 ^ w))), .int (nI 10), .ref 40], MW A (upB B 40 f) F sw, 0, 0)) 1 rfl ?_
                  rw [bx_or]
                  refine wp_go (f' := (159, [.ref 28, .int (nI 0), .long u.2, .retAddr 0, .int (nI (k + 1)), .int (nI v), .long (u.1 ((10 * (k + 1)) + v)), .retAddr 0, .int (nI w)], [.int ((nI 10) * (nI ((k + 1) ||| (2 ^ w)))), .ref 40], MW A (upB B 40 f) F sw, 0, 0)) 1 rfl ?_
                  rw [nI_mul]
                  refine wp_go (f' := (162, [.ref 28, .int (nI 0), .long u.2, .retAddr 0, .int (nI (k + 1)), .int (nI v), .long (u.1 ((10 * (k + 1)) + v)), .retAddr 0, .int (nI w)], [.int ((nI (10 * ((k + 1) ||| (2 ^ w)))) + (nI w)), .ref 40], MW A (upB B 40 f) F sw, 0, 0)) 2 rfl ?_
                  rw [nI_add]
                  refine wp_go (f' := (163, [.ref 28, .int (nI 0), .long u.2, .retAddr 0, .int (nI (k + 1)), .int (nI v), .long (u.1 ((10 * (k + 1)) + v)), .retAddr 0, .int (nI w)], [.int (nI ((10 * ((k + 1) ||| (2 ^ w))) + w)), .ref 40, .int (nI ((10 * ((k + 1) ||| (2 ^ w))) + w)), .ref 40], MW A (upB B 40 f) F sw, 0, 0)) 1 rfl ?_
                  refine wp_lald rfl rfl (by omega) (by decide) ?_
                  refine wp_eq (f' := (164, [.ref 28, .int (nI 0), .long u.2, .retAddr 0, .int (nI (k + 1)), .int (nI v), .long (u.1 ((10 * (k + 1)) + v)), .retAddr 0, .int (nI w)], [.long (f ((10 * ((k + 1) ||| (2 ^ w))) + w)), .int (nI ((10 * ((k + 1) ||| (2 ^ w))) + w)), .ref 40], MW A (upB B 40 f) F sw, 0, 0)) rfl ?_
                  refine wp_go (f' := (167, [.ref 28, .int (nI 0), .long u.2, .retAddr 0, .int (nI (k + 1)), .int (nI v), .long (u.1 ((10 * (k + 1)) + v)), .retAddr 0, .int (nI w)], [.long ((f ((10 * ((k + 1) ||| (2 ^ w))) + w)) + (u.1 ((10 * (k + 1)) + v))), .int (nI ((10 * ((k + 1) ||| (2 ^ w))) + w)), .ref 40], MW A (upB B 40 f) F sw, 0, 0)) 2 rfl ?_
                  refine wp_last rfl rfl (by omega) (by decide) ?_
                  refine wp_eq (f' := (168, [.ref 28, .int (nI 0), .long u.2, .retAddr 0, .int (nI (k + 1)), .int (nI v), .long (u.1 ((10 * (k + 1)) + v)), .retAddr 0, .int (nI w)], [], MW A (upB B 40 (vp_updL f ((10 * ((k + 1) ||| (2 ^ w))) + w) ((f ((10 * ((k + 1) ||| (2 ^ w))) + w)) + (u.1 ((10 * (k + 1)) + v))))) F sw, 0, 0)) rfl ?_
                  refine wp_go (f' := (171, [.ref 28, .int (nI 0), .long u.2, .retAddr 0, .int (nI (k + 1)), .int (nI v), .long (u.1 ((10 * (k + 1)) + v)), .retAddr 0, .int ((nI w) + 1)], [], MW A (upB B 40 (vp_updL f ((10 * ((k + 1) ||| (2 ^ w))) + w) ((f ((10 * ((k + 1) ||| (2 ^ w))) + w)) + (u.1 ((10 * (k + 1)) + v))))) F sw, 0, 0)) 1 rfl ?_
                  rw [nI_1]
                  refine wp_go (f' := (108, [.ref 28, .int (nI 0), .long u.2, .retAddr 0, .int (nI (k + 1)), .int (nI v), .long (u.1 ((10 * (k + 1)) + v)), .retAddr 0, .int (nI (w + 1))], [], MW A (upB B 40 (vp_updL f ((10 * ((k + 1) ||| (2 ^ w))) + w) ((f ((10 * ((k + 1) ||| (2 ^ w))) + w)) + (u.1 ((10 * (k + 1)) + v))))) F sw, 0, 0)) 1 rfl ?_
                  have e1 : rwW nb (k + 1) v (u.1 (10 * (k + 1) + v)) w f = (vp_updL f ((10 * ((k + 1) ||| (2 ^ w))) + w) ((f ((10 * ((k + 1) ||| (2 ^ w))) + w)) + (u.1 ((10 * (k + 1)) + v)))) := by unfold rwW; exact if_pos ⟨h1, h2⟩
                  rw [e1] at ih3
                  exact ih3
            · skip
              refine wp_go (f' := (114, [.ref 28, .int (nI 0), .long u.2, .retAddr 0, .int (nI (k + 1)), .int (nI v), .long (u.1 ((10 * (k + 1)) + v)), .retAddr 0, .int (nI n)], [.int (F 6), .int (nI n)], MW A (upB B 40 (forN (rwW nb (k + 1) v (u.1 (10 * (k + 1) + v))) n u.1)) F sw, 0, 0)) 3 rfl ?_
              rw [hM.2.1]
              refine wp_go (f' := ((if (nI n) ≤ (nI n) then 174 else 117), [.ref 28, .int (nI 0), .long u.2, .retAddr 0, .int (nI (k + 1)), .int (nI v), .long (u.1 ((10 * (k + 1)) + v)), .retAddr 0, .int (nI n)], [], MW A (upB B 40 (forN (rwW nb (k + 1) v (u.1 (10 * (k + 1) + v))) n u.1)) F sw, 0, 0)) 1 rfl ?_
              refine wp_ite (fun _ => ?_) (fun h9 => absurd (nI_le (Nat.le_refl _) (by omega)) h9)
              exact hfin _
        · intro e6 e7 e8
          refine wp_go (f' := (87, [.ref 28, .int (nI 0), .long ((rwS n nb false k q).2), .retAddr 0, .int (nI (k + 1)), .int (nI n), e6, e7, e8], [.int (F 6), .int (nI n)], MW A (upB B 40 (rwS n nb false k q).1) F sw, 0, 0)) 3 rfl ?_
          rw [hM.2.1]
          refine wp_go (f' := ((if (nI n) ≤ (nI n) then 212 else 90), [.ref 28, .int (nI 0), .long ((rwS n nb false k q).2), .retAddr 0, .int (nI (k + 1)), .int (nI n), e6, e7, e8], [], MW A (upB B 40 (rwS n nb false k q).1) F sw, 0, 0)) 1 rfl ?_
          refine wp_ite (fun _ => ?_) (fun h9 => absurd (nI_le (Nat.le_refl _) (by omega)) h9)
          refine wp_go (f' := (215, [.ref 28, .int (nI 0), .long ((rwS n nb false k q).2), .retAddr 0, .int ((nI (k + 1)) + 1), .int (nI n), e6, e7, e8], [], MW A (upB B 40 (rwS n nb false k q).1) F sw, 0, 0)) 1 rfl ?_
          rw [nI_1]
          refine wp_go (f' := (69, [.ref 28, .int (nI 0), .long ((rwS n nb false k q).2), .retAddr 0, .int (nI ((k + 1) + 1)), .int (nI n), e6, e7, e8], [], MW A (upB B 40 (rwS n nb false k q).1) F sw, 0, 0)) 1 rfl ?_
          exact ih _ _ _ _
      · intro e5 e6 e7 e8
        refine wp_go (f' := (72, [.ref 28, .int (nI 0), .long ((rwN n nb false (B 40)).2), .retAddr 0, .int (nI (2 ^ n - 1 + 1)), e5, e6, e7, e8], [.ref 28, .int (nI (2 ^ n - 1 + 1))], MW A (upB B 40 (rwN n nb false (B 40)).1) F sw, 0, 0)) 2 rfl ?_
        refine wp_call rfl rfl rfl (ev_up (ev_all hM) (by decide)) ?_
        refine wp_eq (f' := (75, [.ref 28, .int (nI 0), .long ((rwN n nb false (B 40)).2), .retAddr 0, .int (nI (2 ^ n - 1 + 1)), e5, e6, e7, e8], [.int (nI (2 ^ n - 1)), .int (nI (2 ^ n - 1 + 1))], MW A (upB B 40 (rwN n nb false (B 40)).1) F sw, 0, 0)) rfl ?_
        refine wp_go (f' := ((if (nI (2 ^ n - 1)) < (nI (2 ^ n - 1 + 1)) then 218 else 78), [.ref 28, .int (nI 0), .long ((rwN n nb false (B 40)).2), .retAddr 0, .int (nI (2 ^ n - 1 + 1)), e5, e6, e7, e8], [], MW A (upB B 40 (rwN n nb false (B 40)).1) F sw, 0, 0)) 1 rfl ?_
        refine wp_ite (fun _ => ?_) (fun h9 => absurd (nI_lt (by omega) (by omega)) h9)
        refine wp_go (f' := (223, [.ref 28, .int (nI 0), .long ((rwN n nb false (B 40)).2), .retAddr 0, .int (nI (2 ^ n - 1 + 1)), e5, e6, e7, e8], [.long (((rwN n nb false (B 40)).2) / 2)], MW A (upB B 40 (rwN n nb false (B 40)).1) F sw, 0, 0)) 3 rfl ?_
        exact wp_lret rfl
theorem ev_ways1 (hM : MI A F n nb) (h1 : 1 ≤ n) : mv_Ev xs Ls 4 124 [.ref 28, .int (nI 1)] (MW A B F sw) (some (.long ((rwN n nb true (B 40)).2 / 2)), MW A (upB B 40 (rwN n nb true (B 40)).1) F sw, 0, 0) := by
  refine ev_of_wp rfl rfl rfl ?_
  have hn := hM.1
  have hp := pow10 hn
  have hp1 : 1 ≤ 2 ^ n := Nat.one_le_two_pow
  have hal := all_lt hn
  refine wp_go (f' := (2, [.ref 28, .int (nI 1), .int (nI 0), .retAddr 0, .retAddr 0, .retAddr 0, .retAddr 0, .retAddr 0, .retAddr 0], [], MW A B F sw, 0, 0)) 2 rfl ?_
  refine wp_eq (f' := (2, [.ref 28, .int (nI 1), .int (nI 0), .retAddr 0, .retAddr 0, .retAddr 0, .retAddr 0, .retAddr 0, .retAddr 0], [], MW A (upB B 40 (B 40)) F sw, 0, 0)) rfl ?_
  refine for_ind (P := fun (k : Nat) (f : Nat → Int64) => mv_Wp xs Ls 3 6 false (some .long) mv_c124 (2, [.ref 28, .int (nI 1), .int (nI k), .retAddr 0, .retAddr 0, .retAddr 0, .retAddr 0, .retAddr 0, .retAddr 0], [], MW A (upB B 40 f) F sw, 0, 0) (some (.long ((rwN n nb true (B 40)).2 / 2)), MW A (upB B 40 (rwN n nb true (B 40)).1) F sw, 0, 0)) (f := fun k f => vp_updL f k 0) (n := 10240) ?_ 10240 (B 40) (Nat.le_refl _) ?_
  · intro k f hk ih
    refine wp_go (f' := ((if (nI 10240) ≤ (nI k) then 22 else 9), [.ref 28, .int (nI 1), .int (nI k), .retAddr 0, .retAddr 0, .retAddr 0, .retAddr 0, .retAddr 0, .retAddr 0], [], MW A (upB B 40 f) F sw, 0, 0)) 3 rfl ?_
    refine wp_ite (fun h9 => absurd h9 (nI_ge hk (by omega))) (fun _ => ?_)
    refine wp_go (f' := (15, [.ref 28, .int (nI 1), .int (nI k), .retAddr 0, .retAddr 0, .retAddr 0, .retAddr 0, .retAddr 0, .retAddr 0], [.long 0, .int (nI k), .ref 40], MW A (upB B 40 f) F sw, 0, 0)) 4 rfl ?_
    refine wp_last rfl rfl (by omega) (by decide) ?_
    refine wp_eq (f' := (16, [.ref 28, .int (nI 1), .int (nI k), .retAddr 0, .retAddr 0, .retAddr 0, .retAddr 0, .retAddr 0, .retAddr 0], [], MW A (upB B 40 (vp_updL f k 0)) F sw, 0, 0)) rfl ?_
    refine wp_go (f' := (19, [.ref 28, .int (nI 1), .int ((nI k) + 1), .retAddr 0, .retAddr 0, .retAddr 0, .retAddr 0, .retAddr 0, .retAddr 0], [], MW A (upB B 40 (vp_updL f k 0)) F sw, 0, 0)) 1 rfl ?_
    rw [nI_1]
    refine wp_go (f' := (2, [.ref 28, .int (nI 1), .int (nI (k + 1)), .retAddr 0, .retAddr 0, .retAddr 0, .retAddr 0, .retAddr 0, .retAddr 0], [], MW A (upB B 40 (vp_updL f k 0)) F sw, 0, 0)) 1 rfl ?_
    exact ih
  · skip
    refine wp_go (f' := ((if (nI 10240) ≤ (nI 10240) then 22 else 9), [.ref 28, .int (nI 1), .int (nI 10240), .retAddr 0, .retAddr 0, .retAddr 0, .retAddr 0, .retAddr 0, .retAddr 0], [], MW A (upB B 40 (forN (fun k f => vp_updL f k 0) 10240 (B 40))) F sw, 0, 0)) 3 rfl ?_
    refine wp_ite (fun _ => ?_) (fun h9 => absurd (nI_le (Nat.le_refl _) (by omega)) h9)
    refine wp_go (f' := (24, [.ref 28, .int (nI 1), .int (nI 0), .retAddr 0, .retAddr 0, .retAddr 0, .retAddr 0, .retAddr 0, .retAddr 0], [], MW A (upB B 40 (forN (fun k f => vp_updL f k 0) 10240 (B 40))) F sw, 0, 0)) 2 rfl ?_
    refine for_ind (P := fun (v : Nat) (f : Nat → Int64) => mv_Wp xs Ls 3 6 false (some .long) mv_c124 (24, [.ref 28, .int (nI 1), .int (nI v), .retAddr 0, .retAddr 0, .retAddr 0, .retAddr 0, .retAddr 0, .retAddr 0], [], MW A (upB B 40 f) F sw, 0, 0) (some (.long ((rwN n nb true (B 40)).2 / 2)), MW A (upB B 40 (rwN n nb true (B 40)).1) F sw, 0, 0)) (f := fun v f => vp_updL f (10 * 2 ^ v + v) (if true = false ∨ v = 0 then 1 else 0)) (n := n) ?_ n (forN (fun k f => vp_updL f k 0) 10240 (B 40)) (Nat.le_refl _) ?_
    · intro v f hk ih
      have hpv : 2 ^ v < 1024 := pow_lt (by omega)
      refine wp_go (f' := (29, [.ref 28, .int (nI 1), .int (nI v), .retAddr 0, .retAddr 0, .retAddr 0, .retAddr 0, .retAddr 0, .retAddr 0], [.int (F 6), .int (nI v)], MW A (upB B 40 f) F sw, 0, 0)) 3 rfl ?_
      rw [hM.2.1]
      refine wp_go (f' := ((if (nI n) ≤ (nI v) then 64 else 32), [.ref 28, .int (nI 1), .int (nI v), .retAddr 0, .retAddr 0, .retAddr 0, .retAddr 0, .retAddr 0, .retAddr 0], [], MW A (upB B 40 f) F sw, 0, 0)) 1 rfl ?_
      refine wp_ite (fun h9 => absurd h9 (nI_ge hk (by omega))) (fun _ => ?_)
      refine wp_go (f' := (41, [.ref 28, .int (nI 1), .int (nI v), .retAddr 0, .retAddr 0, .retAddr 0, .retAddr 0, .retAddr 0, .retAddr 0], [.int ((nI 1) <<< ((nI v) &&& 31)), .int (nI 10), .ref 40], MW A (upB B 40 f) F sw, 0, 0)) 6 rfl ?_
      rw [bx_one (by omega)]
      refine wp_go (f' := (42, [.ref 28, .int (nI 1), .int (nI v), .retAddr 0, .retAddr 0, .retAddr 0, .retAddr 0, .retAddr 0, .retAddr 0], [.int ((nI 10) * (nI (2 ^ v))), .ref 40], MW A (upB B 40 f) F sw, 0, 0)) 1 rfl ?_
      rw [nI_mul]
      refine wp_go (f' := (44, [.ref 28, .int (nI 1), .int (nI v), .retAddr 0, .retAddr 0, .retAddr 0, .retAddr 0, .retAddr 0, .retAddr 0], [.int ((nI (10 * (2 ^ v))) + (nI v)), .ref 40], MW A (upB B 40 f) F sw, 0, 0)) 2 rfl ?_
      rw [nI_add]
      refine wp_go (f' := ((if (nI 1) = 0 then 52 else 48), [.ref 28, .int (nI 1), .int (nI v), .retAddr 0, .retAddr 0, .retAddr 0, .retAddr 0, .retAddr 0, .retAddr 0], [.int (nI ((10 * (2 ^ v)) + v)), .ref 40], MW A (upB B 40 f) F sw, 0, 0)) 2 rfl ?_
      refine wp_ite (fun h9 => absurd h9 (by decide)) (fun _ => ?_)
      refine wp_go (f' := ((if ¬ (nI v) = 0 then 56 else 52), [.ref 28, .int (nI 1), .int (nI v), .retAddr 0, .retAddr 0, .retAddr 0, .retAddr 0, .retAddr 0, .retAddr 0], [.int (nI ((10 * (2 ^ v)) + v)), .ref 40], MW A (upB B 40 f) F sw, 0, 0)) 2 rfl ?_
      refine wp_ite (fun h1 => ?_) (fun h1 => ?_)
      · have h1 : ¬ (v = 0) := fun h9 => h1 ((nI_eq (a := v) (b := 0) (by omega) (by omega)).mpr h9)
        refine wp_go (f' := (57, [.ref 28, .int (nI 1), .int (nI v), .retAddr 0, .retAddr 0, .retAddr 0, .retAddr 0, .retAddr 0, .retAddr 0], [.long 0, .int (nI ((10 * (2 ^ v)) + v)), .ref 40], MW A (upB B 40 f) F sw, 0, 0)) 1 rfl ?_
        refine wp_last rfl rfl (by omega) (by decide) ?_
        refine wp_eq (f' := (58, [.ref 28, .int (nI 1), .int (nI v), .retAddr 0, .retAddr 0, .retAddr 0, .retAddr 0, .retAddr 0, .retAddr 0], [], MW A (upB B 40 (vp_updL f ((10 * (2 ^ v)) + v) 0)) F sw, 0, 0)) rfl ?_
        refine wp_go (f' := (61, [.ref 28, .int (nI 1), .int ((nI v) + 1), .retAddr 0, .retAddr 0, .retAddr 0, .retAddr 0, .retAddr 0, .retAddr 0], [], MW A (upB B 40 (vp_updL f ((10 * (2 ^ v)) + v) 0)) F sw, 0, 0)) 1 rfl ?_
        rw [nI_1]
        refine wp_go (f' := (24, [.ref 28, .int (nI 1), .int (nI (v + 1)), .retAddr 0, .retAddr 0, .retAddr 0, .retAddr 0, .retAddr 0, .retAddr 0], [], MW A (upB B 40 (vp_updL f ((10 * (2 ^ v)) + v) 0)) F sw, 0, 0)) 1 rfl ?_
        have e1 : (if true = false ∨ v = 0 then (1 : Int64) else 0) = 0 := by simp [h1]
        rw [e1] at ih
        exact ih
      · have h1 := Classical.not_not.mp h1; have h1 : v = 0 := (nI_eq (a := v) (b := 0) (by omega) (by omega)).mp h1
        refine wp_go (f' := (57, [.ref 28, .int (nI 1), .int (nI v), .retAddr 0, .retAddr 0, .retAddr 0, .retAddr 0, .retAddr 0, .retAddr 0], [.long 1, .int (nI ((10 * (2 ^ v)) + v)), .ref 40], MW A (upB B 40 f) F sw, 0, 0)) 2 rfl ?_
        refine wp_last rfl rfl (by omega) (by decide) ?_
        refine wp_eq (f' := (58, [.ref 28, .int (nI 1), .int (nI v), .retAddr 0, .retAddr 0, .retAddr 0, .retAddr 0, .retAddr 0, .retAddr 0], [], MW A (upB B 40 (vp_updL f ((10 * (2 ^ v)) + v) 1)) F sw, 0, 0)) rfl ?_
        refine wp_go (f' := (61, [.ref 28, .int (nI 1), .int ((nI v) + 1), .retAddr 0, .retAddr 0, .retAddr 0, .retAddr 0, .retAddr 0, .retAddr 0], [], MW A (upB B 40 (vp_updL f ((10 * (2 ^ v)) + v) 1)) F sw, 0, 0)) 1 rfl ?_
        rw [nI_1]
        refine wp_go (f' := (24, [.ref 28, .int (nI 1), .int (nI (v + 1)), .retAddr 0, .retAddr 0, .retAddr 0, .retAddr 0, .retAddr 0, .retAddr 0], [], MW A (upB B 40 (vp_updL f ((10 * (2 ^ v)) + v) 1)) F sw, 0, 0)) 1 rfl ?_
        have e1 : (if true = false ∨ v = 0 then (1 : Int64) else 0) = 1 := by simp [h1]
        rw [e1] at ih
        exact ih
    · skip
      refine wp_go (f' := (29, [.ref 28, .int (nI 1), .int (nI n), .retAddr 0, .retAddr 0, .retAddr 0, .retAddr 0, .retAddr 0, .retAddr 0], [.int (F 6), .int (nI n)], MW A (upB B 40 (rwI n true (B 40))) F sw, 0, 0)) 3 rfl ?_
      rw [hM.2.1]
      refine wp_go (f' := ((if (nI n) ≤ (nI n) then 64 else 32), [.ref 28, .int (nI 1), .int (nI n), .retAddr 0, .retAddr 0, .retAddr 0, .retAddr 0, .retAddr 0, .retAddr 0], [], MW A (upB B 40 (rwI n true (B 40))) F sw, 0, 0)) 1 rfl ?_
      refine wp_ite (fun _ => ?_) (fun h9 => absurd (nI_le (Nat.le_refl _) (by omega)) h9)
      refine wp_go (f' := (69, [.ref 28, .int (nI 1), .long 0, .retAddr 0, .int (nI 1), .retAddr 0, .retAddr 0, .retAddr 0, .retAddr 0], [], MW A (upB B 40 (rwI n true (B 40))) F sw, 0, 0)) 4 rfl ?_
      refine for_ind (P := fun (k : Nat) (q : (Nat → Int64) × Int64) => ∀ e5 e6 e7 e8 : Value, mv_Wp xs Ls 3 6 false (some .long) mv_c124 (69, [.ref 28, .int (nI 1), .long q.2, .retAddr 0, .int (nI (k + 1)), e5, e6, e7, e8], [], MW A (upB B 40 q.1) F sw, 0, 0) (some (.long ((rwN n nb true (B 40)).2 / 2)), MW A (upB B 40 (rwN n nb true (B 40)).1) F sw, 0, 0)) (f := rwS n nb true) (n := 2 ^ n - 1) ?_ (2 ^ n - 1) ((rwI n true (B 40)), 0) (Nat.le_refl _) ?_ _ _ _ _
      · intro k q hk ih e5 e6 e7 e8
        refine wp_go (f' := (72, [.ref 28, .int (nI 1), .long q.2, .retAddr 0, .int (nI (k + 1)), e5, e6, e7, e8], [.ref 28, .int (nI (k + 1))], MW A (upB B 40 q.1) F sw, 0, 0)) 2 rfl ?_
        refine wp_call rfl rfl rfl (ev_up (ev_all hM) (by decide)) ?_
        refine wp_eq (f' := (75, [.ref 28, .int (nI 1), .long q.2, .retAddr 0, .int (nI (k + 1)), e5, e6, e7, e8], [.int (nI (2 ^ n - 1)), .int (nI (k + 1))], MW A (upB B 40 q.1) F sw, 0, 0)) rfl ?_
        refine wp_go (f' := ((if (nI (2 ^ n - 1)) < (nI (k + 1)) then 218 else 78), [.ref 28, .int (nI 1), .long q.2, .retAddr 0, .int (nI (k + 1)), e5, e6, e7, e8], [], MW A (upB B 40 q.1) F sw, 0, 0)) 1 rfl ?_
        refine wp_ite (fun h9 => absurd h9 (nI_nlt (by omega) (by omega))) (fun _ => ?_)
        refine wp_go (f' := (81, [.ref 28, .int (nI 1), .long q.2, .retAddr 0, .int (nI (k + 1)), .int (nI 0), e6, e7, e8], [], MW A (upB B 40 q.1) F sw, 0, 0)) 2 rfl ?_
        refine for_ind (P := fun (v : Nat) (u : (Nat → Int64) × Int64) => ∀ e6 e7 e8 : Value, mv_Wp xs Ls 3 6 false (some .long) mv_c124 (81, [.ref 28, .int (nI 1), .long u.2, .retAddr 0, .int (nI (k + 1)), .int (nI v), e6, e7, e8], [], MW A (upB B 40 u.1) F sw, 0, 0) (some (.long ((rwN n nb true (B 40)).2 / 2)), MW A (upB B 40 (rwN n nb true (B 40)).1) F sw, 0, 0)) (f := rwV n nb true (k + 1)) (n := n) ?_ n q (Nat.le_refl _) ?_ _ _ _
        · intro v u hv ih2 e6 e7 e8
          refine wp_go (f' := (87, [.ref 28, .int (nI 1), .long u.2, .retAddr 0, .int (nI (k + 1)), .int (nI v), e6, e7, e8], [.int (F 6), .int (nI v)], MW A (upB B 40 u.1) F sw, 0, 0)) 3 rfl ?_
          rw [hM.2.1]
          refine wp_go (f' := ((if (nI n) ≤ (nI v) then 212 else 90), [.ref 28, .int (nI 1), .long u.2, .retAddr 0, .int (nI (k + 1)), .int (nI v), e6, e7, e8], [], MW A (upB B 40 u.1) F sw, 0, 0)) 1 rfl ?_
          refine wp_ite (fun h9 => absurd h9 (nI_ge hv (by omega))) (fun _ => ?_)
          refine wp_go (f' := (99, [.ref 28, .int (nI 1), .long u.2, .retAddr 0, .int (nI (k + 1)), .int (nI v), e6, e7, e8], [.int ((nI 10) * (nI (k + 1))), .ref 40], MW A (upB B 40 u.1) F sw, 0, 0)) 5 rfl ?_
          rw [nI_mul]
          refine wp_go (f' := (102, [.ref 28, .int (nI 1), .long u.2, .retAddr 0, .int (nI (k + 1)), .int (nI v), e6, e7, e8], [.int ((nI (10 * (k + 1))) + (nI v)), .ref 40], MW A (upB B 40 u.1) F sw, 0, 0)) 2 rfl ?_
          rw [nI_add]
          refine wp_lald rfl rfl (by omega) (by decide) ?_
          refine wp_eq (f' := (103, [.ref 28, .int (nI 1), .long u.2, .retAddr 0, .int (nI (k + 1)), .int (nI v), e6, e7, e8], [.long (u.1 ((10 * (k + 1)) + v))], MW A (upB B 40 u.1) F sw, 0, 0)) rfl ?_
          refine wp_go (f' := (108, [.ref 28, .int (nI 1), .long u.2, .retAddr 0, .int (nI (k + 1)), .int (nI v), .long (u.1 ((10 * (k + 1)) + v)), .retAddr 0, .int (nI 0)], [], MW A (upB B 40 u.1) F sw, 0, 0)) 3 rfl ?_
          have hfin : ∀ e8 : Value, mv_Wp xs Ls 3 6 false (some .long) mv_c124 (174, [.ref 28, .int (nI 1), .long u.2, .retAddr 0, .int (nI (k + 1)), .int (nI v), .long (u.1 ((10 * (k + 1)) + v)), .retAddr 0, e8], [], MW A (upB B 40 (forN (rwW nb (k + 1) v (u.1 (10 * (k + 1) + v))) n u.1)) F sw, 0, 0) (some (.long ((rwN n nb true (B 40)).2 / 2)), MW A (upB B 40 (rwN n nb true (B 40)).1) F sw, 0, 0) := by
            intro e8
            refine wp_go (f' := (178, [.ref 28, .int (nI 1), .long u.2, .retAddr 0, .int (nI (k + 1)), .int (nI v), .long (u.1 ((10 * (k + 1)) + v)), .retAddr 0, e8], [.ref 28, .int (nI (k + 1)), .long u.2], MW A (upB B 40 (forN (rwW nb (k + 1) v (u.1 (10 * (k + 1) + v))) n u.1)) F sw, 0, 0)) 3 rfl ?_
            refine wp_call rfl rfl rfl (ev_up (ev_all hM) (by decide)) ?_
            refine wp_eq (f' := (181, [.ref 28, .int (nI 1), .long u.2, .retAddr 0, .int (nI (k + 1)), .int (nI v), .long (u.1 ((10 * (k + 1)) + v)), .retAddr 0, e8], [.int (nI (2 ^ n - 1)), .int (nI (k + 1)), .long u.2], MW A (upB B 40 (forN (rwW nb (k + 1) v (u.1 (10 * (k + 1) + v))) n u.1)) F sw, 0, 0)) rfl ?_
            refine wp_go (f' := ((if ¬ (nI (k + 1)) = (nI (2 ^ n - 1)) then 203 else 184), [.ref 28, .int (nI 1), .long u.2, .retAddr 0, .int (nI (k + 1)), .int (nI v), .long (u.1 ((10 * (k + 1)) + v)), .retAddr 0, e8], [.long u.2], MW A (upB B 40 (forN (rwW nb (k + 1) v (u.1 (10 * (k + 1) + v))) n u.1)) F sw, 0, 0)) 1 rfl ?_
            refine wp_ite (fun h1 => ?_) (fun h1 => ?_)
            · have h1 : ¬ (k + 1 = 2 ^ n - 1) := fun h9 => h1 ((nI_eq (a := k + 1) (b := 2 ^ n - 1) (by omega) (by omega)).mpr h9)
              refine wp_go (f' := (209, [.ref 28, .int (nI 1), .long (u.2 + 0), .retAddr 0, .int (nI (k + 1)), .int ((nI v) + 1), .long (u.1 ((10 * (k + 1)) + v)), .retAddr 0, e8], [], MW A (upB B 40 (forN (rwW nb (k + 1) v (u.1 (10 * (k + 1) + v))) n u.1)) F sw, 0, 0)) 4 rfl ?_
              rw [nI_1]
              refine wp_go (f' := (81, [.ref 28, .int (nI 1), .long (u.2 + 0), .retAddr 0, .int (nI (k + 1)), .int (nI (v + 1)), .long (u.1 ((10 * (k + 1)) + v)), .retAddr 0, e8], [], MW A (upB B 40 (forN (rwW nb (k + 1) v (u.1 (10 * (k + 1) + v))) n u.1)) F sw, 0, 0)) 1 rfl ?_
              have e1 : (if k + 1 = 2 ^ n - 1 ∧ (true = false ∨ (nb v).testBit 0 = true) then (u.1 (10 * (k + 1) + v)) else 0) = 0 := by first | (exfalso; omega) | simp [h1]
              unfold rwV at ih2
              rw [e1] at ih2
              exact ih2 _ _ _
            · have h1 := Classical.not_not.mp h1; have h1 : k + 1 = 2 ^ n - 1 := (nI_eq (a := k + 1) (b := 2 ^ n - 1) (by omega) (by omega)).mp h1
              refine wp_go (f' := ((if (nI 1) = 0 then 198 else 188), [.ref 28, .int (nI 1), .long u.2, .retAddr 0, .int (nI (k + 1)), .int (nI v), .long (u.1 ((10 * (k + 1)) + v)), .retAddr 0, e8], [.long u.2], MW A (upB B 40 (forN (rwW nb (k + 1) v (u.1 (10 * (k + 1) + v))) n u.1)) F sw, 0, 0)) 2 rfl ?_
              refine wp_ite (fun h9 => absurd h9 (by decide)) (fun _ => ?_)
              refine wp_go (f' := (192, [.ref 28, .int (nI 1), .long u.2, .retAddr 0, .int (nI (k + 1)), .int (nI v), .long (u.1 ((10 * (k + 1)) + v)), .retAddr 0, e8], [.int (nI 0), .int (nI v), .ref 28, .long u.2], MW A (upB B 40 (forN (rwW nb (k + 1) v (u.1 (10 * (k + 1) + v))) n u.1)) F sw, 0, 0)) 3 rfl ?_
              refine wp_call rfl rfl rfl (ev_up (ev_isEdge hM v 0 (by omega) (by omega)) (by decide)) ?_
              refine wp_eq (f' := (195, [.ref 28, .int (nI 1), .long u.2, .retAddr 0, .int (nI (k + 1)), .int (nI v), .long (u.1 ((10 * (k + 1)) + v)), .retAddr 0, e8], [.int (bI ((nb v).testBit 0)), .long u.2], MW A (upB B 40 (forN (rwW nb (k + 1) v (u.1 (10 * (k + 1) + v))) n u.1)) F sw, 0, 0)) rfl ?_
              refine wp_go (f' := ((if (bI ((nb v).testBit 0)) = 0 then 203 else 198), [.ref 28, .int (nI 1), .long u.2, .retAddr 0, .int (nI (k + 1)), .int (nI v), .long (u.1 ((10 * (k + 1)) + v)), .retAddr 0, e8], [.long u.2], MW A (upB B 40 (forN (rwW nb (k + 1) v (u.1 (10 * (k + 1) + v))) n u.1)) F sw, 0, 0)) 1 rfl ?_
              refine wp_ite (fun h2 => ?_) (fun h2 => ?_)
              · have h2 := bI_0.mp h2
                refine wp_go (f' := (209, [.ref 28, .int (nI 1), .long (u.2 + 0), .retAddr 0, .int (nI (k + 1)), .int ((nI v) + 1), .long (u.1 ((10 * (k + 1)) + v)), .retAddr 0, e8], [], MW A (upB B 40 (forN (rwW nb (k + 1) v (u.1 (10 * (k + 1) + v))) n u.1)) F sw, 0, 0)) 4 rfl ?_
                rw [nI_1]
                refine wp_go (f' := (81, [.ref 28, .int (nI 1), .long (u.2 + 0), .retAddr 0, .int (nI (k + 1)), .int (nI (v + 1)), .long (u.1 ((10 * (k + 1)) + v)), .retAddr 0, e8], [], MW A (upB B 40 (forN (rwW nb (k + 1) v (u.1 (10 * (k + 1) + v))) n u.1)) F sw, 0, 0)) 1 rfl ?_
                have e1 : (if k + 1 = 2 ^ n - 1 ∧ (true = false ∨ (nb v).testBit 0 = true) then (u.1 (10 * (k + 1) + v)) else 0) = 0 := by first | (exfalso; omega) | simp [h1, h2]
                unfold rwV at ih2
                rw [e1] at ih2
                exact ih2 _ _ _
              · have h2 := bI_n0 h2
                refine wp_go (f' := (209, [.ref 28, .int (nI 1), .long (u.2 + (u.1 ((10 * (k + 1)) + v))), .retAddr 0, .int (nI (k + 1)), .int ((nI v) + 1), .long (u.1 ((10 * (k + 1)) + v)), .retAddr 0, e8], [], MW A (upB B 40 (forN (rwW nb (k + 1) v (u.1 (10 * (k + 1) + v))) n u.1)) F sw, 0, 0)) 5 rfl ?_
                rw [nI_1]
                refine wp_go (f' := (81, [.ref 28, .int (nI 1), .long (u.2 + (u.1 ((10 * (k + 1)) + v))), .retAddr 0, .int (nI (k + 1)), .int (nI (v + 1)), .long (u.1 ((10 * (k + 1)) + v)), .retAddr 0, e8], [], MW A (upB B 40 (forN (rwW nb (k + 1) v (u.1 (10 * (k + 1) + v))) n u.1)) F sw, 0, 0)) 1 rfl ?_
                have e1 : (if k + 1 = 2 ^ n - 1 ∧ (true = false ∨ (nb v).testBit 0 = true) then (u.1 (10 * (k + 1) + v)) else 0) = (u.1 (10 * (k + 1) + v)) := by first | (exfalso; omega) | simp [h1, h2]
                unfold rwV at ih2
                rw [e1] at ih2
                exact ih2 _ _ _
          by_cases hx0 : (u.1 (10 * (k + 1) + v)) = 0
          · rw [hx0, rwW_0] at hfin
            refine wp_go (f' := (114, [.ref 28, .int (nI 1), .long u.2, .retAddr 0, .int (nI (k + 1)), .int (nI v), .long (u.1 ((10 * (k + 1)) + v)), .retAddr 0, .int (nI 0)], [.int (F 6), .int (nI 0)], MW A (upB B 40 u.1) F sw, 0, 0)) 3 rfl ?_
            rw [hM.2.1]
            refine wp_go (f' := ((if (nI n) ≤ (nI 0) then 174 else 117), [.ref 28, .int (nI 1), .long u.2, .retAddr 0, .int (nI (k + 1)), .int (nI v), .long (u.1 ((10 * (k + 1)) + v)), .retAddr 0, .int (nI 0)], [], MW A (upB B 40 u.1) F sw, 0, 0)) 1 rfl ?_
            refine wp_ite (fun h9 => absurd h9 (nI_ge (a := 0) (b := n) (by omega) (by omega))) (fun _ => ?_)
            refine wp_go (f' := ((if (lg_cmp (u.1 ((10 * (k + 1)) + v)) 0) = 0 then 174 else 124), [.ref 28, .int (nI 1), .long u.2, .retAddr 0, .int (nI (k + 1)), .int (nI v), .long (u.1 ((10 * (k + 1)) + v)), .retAddr 0, .int (nI 0)], [], MW A (upB B 40 u.1) F sw, 0, 0)) 4 rfl ?_
            refine wp_ite (fun _ => ?_) (fun h9 => absurd ((lg_cmp_eq _ _).mpr hx0) h9)
            rw [hx0]
            exact hfin _
          · skip
            refine for_ind (P := fun (w : Nat) (f : Nat → Int64) => mv_Wp xs Ls 3 6 false (some .long) mv_c124 (108, [.ref 28, .int (nI 1), .long u.2, .retAddr 0, .int (nI (k + 1)), .int (nI v), .long (u.1 ((10 * (k + 1)) + v)), .retAddr 0, .int (nI w)], [], MW A (upB B 40 f) F sw, 0, 0) (some (.long ((rwN n nb true (B 40)).2 / 2)), MW A (upB B 40 (rwN n nb true (B 40)).1) F sw, 0, 0)) (f := rwW nb (k + 1) v (u.1 (10 * (k + 1) + v))) (n := n) ?_ n u.1 (Nat.le_refl _) ?_
            · intro w f hw ih3
              have hol : (k + 1) ||| 2 ^ w < 1024 := or_lt (by omega) (pow_lt (by omega))
              refine wp_go (f' := (114, [.ref 28, .int (nI 1), .long u.2, .retAddr 0, .int (nI (k + 1)), .int (nI v), .long (u.1 ((10 * (k + 1)) + v)), .retAddr 0, .int (nI w)], [.int (F 6), .int (nI w)], MW A (upB B 40 f) F sw, 0, 0)) 3 rfl ?_
              rw [hM.2.1]
              refine wp_go (f' := ((if (nI n) ≤ (nI w) then 174 else 117), [.ref 28, .int (nI 1), .long u.2, .retAddr 0, .int (nI (k + 1)), .int (nI v), .long (u.1 ((10 * (k + 1)) + v)), .retAddr 0, .int (nI w)], [], MW A (upB B 40 f) F sw, 0, 0)) 1 rfl ?_
              refine wp_ite (fun h9 => absurd h9 (nI_ge hw (by omega))) (fun _ => ?_)
              refine wp_go (f' := ((if (lg_cmp (u.1 ((10 * (k + 1)) + v)) 0) = 0 then 174 else 124), [.ref 28, .int (nI 1), .long u.2, .retAddr 0, .int (nI (k + 1)), .int (nI v), .long (u.1 ((10 * (k + 1)) + v)), .retAddr 0, .int (nI w)], [], MW A (upB B 40 f) F sw, 0, 0)) 4 rfl ?_
              refine wp_ite (fun h9 => absurd h9 (fun h8 => hx0 ((lg_cmp_eq _ _).mp h8))) (fun _ => ?_)
              refine wp_go (f' := (129, [.ref 28, .int (nI 1), .long u.2, .retAddr 0, .int (nI (k + 1)), .int (nI v), .long (u.1 ((10 * (k + 1)) + v)), .retAddr 0, .int (nI w)], [.int (nI w), .int (nI v), .ref 28], MW A (upB B 40 f) F sw, 0, 0)) 3 rfl ?_
              refine wp_call rfl rfl rfl (ev_up (ev_isEdge hM v w (by omega) (by omega)) (by decide)) ?_
              refine wp_eq (f' := (132, [.ref 28, .int (nI 1), .long u.2, .retAddr 0, .int (nI (k + 1)), .int (nI v), .long (u.1 ((10 * (k + 1)) + v)), .retAddr 0, .int (nI w)], [.int (bI ((nb v).testBit w))], MW A (upB B 40 f) F sw, 0, 0)) rfl ?_
              refine wp_go (f' := ((if (bI ((nb v).testBit w)) = 0 then 168 else 135), [.ref 28, .int (nI 1), .long u.2, .retAddr 0, .int (nI (k + 1)), .int (nI v), .long (u.1 ((10 * (k + 1)) + v)), .retAddr 0, .int (nI w)], [], MW A (upB B 40 f) F sw, 0, 0)) 1 rfl ?_
              refine wp_ite (fun h1 => ?_) (fun h1 => ?_)
              · have h1 := bI_0.mp h1
                refine wp_go (f' := (171, [.ref 28, .int (nI 1), .long u.2, .retAddr 0, .int (nI (k + 1)), .int (nI v), .long (u.1 ((10 * (k + 1)) + v)), .retAddr 0, .int ((nI w) + 1)], [], MW A (upB B 40 f) F sw, 0, 0)) 1 rfl ?_
                rw [nI_1]
                refine wp_go (f' := (108, [.ref 28, .int (nI 1), .long u.2, .retAddr 0, .int (nI (k + 1)), .int (nI v), .long (u.1 ((10 * (k + 1)) + v)), .retAddr 0, .int (nI (w + 1))], [], MW A (upB B 40 f) F sw, 0, 0)) 1 rfl ?_
                have e1 : rwW nb (k + 1) v (u.1 (10 * (k + 1) + v)) w f = f := by unfold rwW; exact if_neg (fun h8 => by simp [h1] at h8)
                rw [e1] at ih3
                exact ih3
              · have h1 := bI_n0 h1
                refine wp_go (f' := (142, [.ref 28, .int (nI 1), .long u.2, .retAddr 0, .int (nI (k + 1)), .int (nI v), .long (u.1 ((10 * (k + 1)) + v)), .retAddr 0, .int (nI w)], [.int (((nI (k + 1)) >>> ((nI w) &&& 31)) &&& (nI 1))], MW A (upB B 40 f) F sw, 0, 0)) 5 rfl ?_
                rw [bx_bit (by omega) (by omega)]
                refine wp_go (f' := ((if ¬ (bI ((k + 1).testBit w)) = 0 then 168 else 145), [.ref 28, .int (nI 1), .long u.2, .retAddr 0, .int (nI (k + 1)), .int (nI v), .long (u.1 ((10 * (k + 1)) + v)), .retAddr 0, .int (nI w)], [], MW A (upB B 40 f) F sw, 0, 0)) 1 rfl ?_
                refine wp_ite (fun h2 => ?_) (fun h2 => ?_)
                · have h2 := bI_n0 h2
                  refine wp_go (f' := (171, [.ref 28, .int (nI 1), .long u.2, .retAddr 0, .int (nI (k + 1)), .int (nI v), .long (u.1 ((10 * (k + 1)) + v)), .retAddr 0, .int ((nI w) + 1)], [], MW A (upB B 40 f) F sw, 0, 0)) 1 rfl ?_
                  rw [nI_1]
                  refine wp_go (f' := (108, [.ref 28, .int (nI 1), .long u.2, .retAddr 0, .int (nI (k + 1)), .int (nI v), .long (u.1 ((10 * (k + 1)) + v)), .retAddr 0, .int (nI (w + 1))], [], MW A (upB B 40 f) F sw, 0, 0)) 1 rfl ?_
                  have e1 : rwW nb (k + 1) v (u.1 (10 * (k + 1) + v)) w f = f := by unfold rwW; exact if_neg (fun h8 => by simp [h1, h2] at h8)
                  rw [e1] at ih3
                  exact ih3
                · have h2 := Classical.not_not.mp h2; have h2 := bI_0.mp h2
                  refine wp_go (f' := (157, [.ref 28, .int (nI 1), .long u.2, .retAddr 0, .int (nI (k + 1)), .int (nI v), .long (u.1 ((10 * (k + 1)) + v)), .retAddr 0, .int (nI w)], [.int ((nI 1) <<< ((nI w) &&& 31)), .int (nI (k + 1)), .int (nI 10), .ref 40], MW A (upB B 40 f) F sw, 0, 0)) 7 rfl ?_
                  rw [bx_one (by omega)]
                  refine wp_go (f' := (158, [.ref 28, .int (nI 1), .long u.2, .retAddr 0, .int (nI (k + 1)), .int (nI v), .long (u.1 ((10 * (k + 1)) + v)), .retAddr 0, .int (nI w)], [.int ((nI (k + 1)) ||| (nI (2 ^ w))), .int (nI 10), .ref 40], MW A (upB B 40 f) F sw, 0, 0)) 1 rfl ?_
                  rw [bx_or]
                  refine wp_go (f' := (159, [.ref 28, .int (nI 1), .long u.2, .retAddr 0, .int (nI (k + 1)), .int (nI v), .long (u.1 ((10 * (k + 1)) + v)), .retAddr 0, .int (nI w)], [.int ((nI 10) * (nI ((k + 1) ||| (2 ^ w)))), .ref 40], MW A (upB B 40 f) F sw, 0, 0)) 1 rfl ?_
                  rw [nI_mul]
                  refine wp_go (f' := (162, [.ref 28, .int (nI 1), .long u.2, .retAddr 0, .int (nI (k + 1)), .int (nI v), .long (u.1 ((10 * (k + 1)) + v)), .retAddr 0, .int (nI w)], [.int ((nI (10 * ((k + 1) ||| (2 ^ w)))) + (nI w)), .ref 40], MW A (upB B 40 f) F sw, 0, 0)) 2 rfl ?_
                  rw [nI_add]
                  refine wp_go (f' := (163, [.ref 28, .int (nI 1), .long u.2, .retAddr 0, .int (nI (k + 1)), .int (nI v), .long (u.1 ((10 * (k + 1)) + v)), .retAddr 0, .int (nI w)], [.int (nI ((10 * ((k + 1) ||| (2 ^ w))) + w)), .ref 40, .int (nI ((10 * ((k + 1) ||| (2 ^ w))) + w)), .ref 40], MW A (upB B 40 f) F sw, 0, 0)) 1 rfl ?_
                  refine wp_lald rfl rfl (by omega) (by decide) ?_
                  refine wp_eq (f' := (164, [.ref 28, .int (nI 1), .long u.2, .retAddr 0, .int (nI (k + 1)), .int (nI v), .long (u.1 ((10 * (k + 1)) + v)), .retAddr 0, .int (nI w)], [.long (f ((10 * ((k + 1) ||| (2 ^ w))) + w)), .int (nI ((10 * ((k + 1) ||| (2 ^ w))) + w)), .ref 40], MW A (upB B 40 f) F sw, 0, 0)) rfl ?_
                  refine wp_go (f' := (167, [.ref 28, .int (nI 1), .long u.2, .retAddr 0, .int (nI (k + 1)), .int (nI v), .long (u.1 ((10 * (k + 1)) + v)), .retAddr 0, .int (nI w)], [.long ((f ((10 * ((k + 1) ||| (2 ^ w))) + w)) + (u.1 ((10 * (k + 1)) + v))), .int (nI ((10 * ((k + 1) ||| (2 ^ w))) + w)), .ref 40], MW A (upB B 40 f) F sw, 0, 0)) 2 rfl ?_
                  refine wp_last rfl rfl (by omega) (by decide) ?_
                  refine wp_eq (f' := (168, [.ref 28, .int (nI 1), .long u.2, .retAddr 0, .int (nI (k + 1)), .int (nI v), .long (u.1 ((10 * (k + 1)) + v)), .retAddr 0, .int (nI w)], [], MW A (upB B 40 (vp_updL f ((10 * ((k + 1) ||| (2 ^ w))) + w) ((f ((10 * ((k + 1) ||| (2 ^ w))) + w)) + (u.1 ((10 * (k + 1)) + v))))) F sw, 0, 0)) rfl ?_
                  refine wp_go (f' := (171, [.ref 28, .int (nI 1), .long u.2, .retAddr 0, .int (nI (k + 1)), .int (nI v), .long (u.1 ((10 * (k + 1)) + v)), .retAddr 0, .int ((nI w) + 1)], [], MW A (upB B 40 (vp_updL f ((10 * ((k + 1) ||| (2 ^ w))) + w) ((f ((10 * ((k + 1) ||| (2 ^ w))) + w)) + (u.1 ((10 * (k + 1)) + v))))) F sw, 0, 0)) 1 rfl ?_
                  rw [nI_1]
                  refine wp_go (f' := (108, [.ref 28, .int (nI 1), .long u.2, .retAddr 0, .int (nI (k + 1)), .int (nI v), .long (u.1 ((10 * (k + 1)) + v)), .retAddr 0, .int (nI (w + 1))], [], MW A (upB B 40 (vp_updL f ((10 * ((k + 1) ||| (2 ^ w))) + w) ((f ((10 * ((k + 1) ||| (2 ^ w))) + w)) + (u.1 ((10 * (k + 1)) + v))))) F sw, 0, 0)) 1 rfl ?_
                  have e1 : rwW nb (k + 1) v (u.1 (10 * (k + 1) + v)) w f = (vp_updL f ((10 * ((k + 1) ||| (2 ^ w))) + w) ((f ((10 * ((k + 1) ||| (2 ^ w))) + w)) + (u.1 ((10 * (k + 1)) + v)))) := by unfold rwW; exact if_pos ⟨h1, h2⟩
                  rw [e1] at ih3
                  exact ih3
            · skip
              refine wp_go (f' := (114, [.ref 28, .int (nI 1), .long u.2, .retAddr 0, .int (nI (k + 1)), .int (nI v), .long (u.1 ((10 * (k + 1)) + v)), .retAddr 0, .int (nI n)], [.int (F 6), .int (nI n)], MW A (upB B 40 (forN (rwW nb (k + 1) v (u.1 (10 * (k + 1) + v))) n u.1)) F sw, 0, 0)) 3 rfl ?_
              rw [hM.2.1]
              refine wp_go (f' := ((if (nI n) ≤ (nI n) then 174 else 117), [.ref 28, .int (nI 1), .long u.2, .retAddr 0, .int (nI (k + 1)), .int (nI v), .long (u.1 ((10 * (k + 1)) + v)), .retAddr 0, .int (nI n)], [], MW A (upB B 40 (forN (rwW nb (k + 1) v (u.1 (10 * (k + 1) + v))) n u.1)) F sw, 0, 0)) 1 rfl ?_
              refine wp_ite (fun _ => ?_) (fun h9 => absurd (nI_le (Nat.le_refl _) (by omega)) h9)
              exact hfin _
        · intro e6 e7 e8
          refine wp_go (f' := (87, [.ref 28, .int (nI 1), .long ((rwS n nb true k q).2), .retAddr 0, .int (nI (k + 1)), .int (nI n), e6, e7, e8], [.int (F 6), .int (nI n)], MW A (upB B 40 (rwS n nb true k q).1) F sw, 0, 0)) 3 rfl ?_
          rw [hM.2.1]
          refine wp_go (f' := ((if (nI n) ≤ (nI n) then 212 else 90), [.ref 28, .int (nI 1), .long ((rwS n nb true k q).2), .retAddr 0, .int (nI (k + 1)), .int (nI n), e6, e7, e8], [], MW A (upB B 40 (rwS n nb true k q).1) F sw, 0, 0)) 1 rfl ?_
          refine wp_ite (fun _ => ?_) (fun h9 => absurd (nI_le (Nat.le_refl _) (by omega)) h9)
          refine wp_go (f' := (215, [.ref 28, .int (nI 1), .long ((rwS n nb true k q).2), .retAddr 0, .int ((nI (k + 1)) + 1), .int (nI n), e6, e7, e8], [], MW A (upB B 40 (rwS n nb true k q).1) F sw, 0, 0)) 1 rfl ?_
          rw [nI_1]
          refine wp_go (f' := (69, [.ref 28, .int (nI 1), .long ((rwS n nb true k q).2), .retAddr 0, .int (nI ((k + 1) + 1)), .int (nI n), e6, e7, e8], [], MW A (upB B 40 (rwS n nb true k q).1) F sw, 0, 0)) 1 rfl ?_
          exact ih _ _ _ _
      · intro e5 e6 e7 e8
        refine wp_go (f' := (72, [.ref 28, .int (nI 1), .long ((rwN n nb true (B 40)).2), .retAddr 0, .int (nI (2 ^ n - 1 + 1)), e5, e6, e7, e8], [.ref 28, .int (nI (2 ^ n - 1 + 1))], MW A (upB B 40 (rwN n nb true (B 40)).1) F sw, 0, 0)) 2 rfl ?_
        refine wp_call rfl rfl rfl (ev_up (ev_all hM) (by decide)) ?_
        refine wp_eq (f' := (75, [.ref 28, .int (nI 1), .long ((rwN n nb true (B 40)).2), .retAddr 0, .int (nI (2 ^ n - 1 + 1)), e5, e6, e7, e8], [.int (nI (2 ^ n - 1)), .int (nI (2 ^ n - 1 + 1))], MW A (upB B 40 (rwN n nb true (B 40)).1) F sw, 0, 0)) rfl ?_
        refine wp_go (f' := ((if (nI (2 ^ n - 1)) < (nI (2 ^ n - 1 + 1)) then 218 else 78), [.ref 28, .int (nI 1), .long ((rwN n nb true (B 40)).2), .retAddr 0, .int (nI (2 ^ n - 1 + 1)), e5, e6, e7, e8], [], MW A (upB B 40 (rwN n nb true (B 40)).1) F sw, 0, 0)) 1 rfl ?_
        refine wp_ite (fun _ => ?_) (fun h9 => absurd (nI_lt (by omega) (by omega)) h9)
        refine wp_go (f' := (223, [.ref 28, .int (nI 1), .long ((rwN n nb true (B 40)).2), .retAddr 0, .int (nI (2 ^ n - 1 + 1)), e5, e6, e7, e8], [.long (((rwN n nb true (B 40)).2) / 2)], MW A (upB B 40 (rwN n nb true (B 40)).1) F sw, 0, 0)) 3 rfl ?_
        exact wp_lret rfl
end MM
