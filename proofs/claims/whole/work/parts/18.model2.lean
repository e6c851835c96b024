/-! iterating, the reference's hang -/
def itN (f : Nat → Nat) : Nat → Nat → Nat
  | 0, x => x
  | k + 1, x => f (itN f k x)
theorem itN_comm (f : Nat → Nat) : ∀ k x, itN f k (f x) = f (itN f k x)
  | 0, x => rfl
  | k + 1, x => by simp only [itN]; rw [itN_comm f k x]
theorem itN_fix {f : Nat → Nat} {x : Nat} (h : f x = x) : ∀ k, itN f k x = x
  | 0 => rfl
  | k + 1 => by simp only [itN]; rw [itN_fix h k, h]
theorem itN_lt {f : Nat → Nat} {m : Nat} (hf : ∀ x, x < m → f x < m) {x : Nat} (hx : x < m) : ∀ k, itN f k x < m
  | 0 => hx
  | k + 1 => hf _ (itN_lt hf hx k)
theorem itN_end {f : Nat → Nat} {m : Nat} (hf : ∀ x, x < m → f x < m) (hg : ∀ x, x < m → x ≤ f x) {x : Nat} (hx : x < m) : f (itN f m x) = itN f m x := by
  have h : ∀ k, f (itN f k x) = itN f k x ∨ x + k ≤ itN f k x := by
    intro k
    induction k with
    | zero => exact Or.inr (Nat.le_refl _)
    | succ k ih =>
      rcases ih with h | h
      · left; simp only [itN]; rw [h, h]
      · by_cases e : f (itN f k x) = itN f k x
        · left; simp only [itN]; rw [e, e]
        · right
          have := hg _ (itN_lt hf hx k)
          simp only [itN]
          omega
  rcases h m with h | h
  · exact h
  · have := itN_lt hf hx m
    omega
/-- one round of hang -/
def hstep (n : Nat) (nb : Nat → Nat) (s g : Nat) : Nat := forN (fun k x => if g.testBit k then x ||| (nb k &&& s) else x) n g
/-- the vertices of s that hang together with v -/
def hangN (n : Nat) (nb : Nat → Nat) (v s : Nat) : Nat := itN (hstep n nb s) 1024 (2 ^ v)
theorem hstep_lt {n : Nat} {nb : Nat → Nat} {s g : Nat} (hs : s < 1024) (hg : g < 1024) : hstep n nb s g < 1024 := by
  refine forN_inv (I := fun _ x => x < 1024) hg (fun k x hk hx => ?_) n (Nat.le_refl _)
  split
  · exact or_lt hx (Nat.lt_of_le_of_lt Nat.and_le_right hs)
  · exact hx
theorem hstep_ge (n : Nat) (nb : Nat → Nat) (s g : Nat) : g ≤ hstep n nb s g := by
  refine forN_inv (I := fun _ x => g ≤ x) (Nat.le_refl _) (fun k x hk hx => ?_) n (Nat.le_refl _)
  split
  · exact Nat.le_trans hx Nat.left_le_or
  · exact hx
theorem hang_end {n : Nat} {nb : Nat → Nat} {s g : Nat} (hs : s < 1024) (hg : g < 1024) : hstep n nb s (itN (hstep n nb s) 1024 g) = itN (hstep n nb s) 1024 g := itN_end (fun x hx => hstep_lt hs hx) (fun x _ => hstep_ge n nb s x) hg
theorem hangN_lt {n : Nat} {nb : Nat → Nat} {v s : Nat} (hv : v < 10) (hs : s < 1024) : hangN n nb v s < 1024 := itN_lt (fun x hx => hstep_lt hs hx) (pow_lt hv) 1024
section MM
variable {xs : Nat → Int32} {Ls : Nat} {A : Nat → Nat → Int32} {B : Nat → Nat → Int64} {F : Nat → Int32} {sw : Bool} {n : Nat} {nb : Nat → Nat}
theorem ev_hang (hM : MI A F n nb) {v s : Nat} (hv : v < 10) (hs : s < 1024) : mv_Ev xs Ls 1 96 [.ref 28, .int (nI v), .int (nI s)] (MW A B F sw) (some (.int (nI (hangN n nb v s))), MW A B F sw, 0, 0) := by
  refine ev_of_wp rfl rfl rfl ?_
  have hn := hM.1
  have hbs := hM.2.2.2
  refine wp_go (f' := (3, [.ref 28, .int (nI v), .int (nI s), .retAddr 0, .retAddr 0, .retAddr 0, .retAddr 0], [.int ((nI 1) <<< ((nI v) &&& 31))], MW A B F sw, 0, 0)) 3 rfl ?_
  rw [bx_one (by omega)]
  refine wp_go (f' := (7, [.ref 28, .int (nI v), .int (nI s), .int (nI (2 ^ v)), .int (nI 1), .retAddr 0, .retAddr 0], [], MW A B F sw, 0, 0)) 3 rfl ?_
  refine wh_ind (P := fun (g : Nat) => g < 1024 → ∀ (d5 d6 : Value), mv_Wp xs Ls 0 6 false (some .int) mv_c96 (7, [.ref 28, .int (nI v), .int (nI s), .int (nI g), .int (nI 1), d5, d6], [], MW A B F sw, 0, 0) (some (.int (nI (itN (hstep n nb s) 1024 g))), MW A B F sw, 0, 0)) (fun g => 1024 - g) ?_ (2 ^ v) (pow_lt hv) _ _
  intro g ih hg d5 d6
  refine wp_go (f' := ((if (nI 1) = 0 then 76 else 12), [.ref 28, .int (nI v), .int (nI s), .int (nI g), .int (nI 1), d5, d6], [], MW A B F sw, 0, 0)) 2 rfl ?_
  refine wp_ite (fun h9 => absurd h9 (by decide : ¬ nI 1 = 0)) (fun _ => ?_)
  refine wp_go (f' := (18, [.ref 28, .int (nI v), .int (nI s), .int (nI g), .int (nI 1), .int (nI g), .int (nI 0)], [], MW A B F sw, 0, 0)) 4 rfl ?_
  refine for_ind (P := fun (k : Nat) (x : Nat) => mv_Wp xs Ls 0 6 false (some .int) mv_c96 (18, [.ref 28, .int (nI v), .int (nI s), .int (nI g), .int (nI 1), .int (nI x), .int (nI k)], [], MW A B F sw, 0, 0) (some (.int (nI (itN (hstep n nb s) 1024 g))), MW A B F sw, 0, 0)) (f := fun k x => if g.testBit k then x ||| (nb k &&& s) else x) (n := n) ?_ n g (Nat.le_refl _) ?_
  · intro k x hk ih2
    refine wp_go (f' := (24, [.ref 28, .int (nI v), .int (nI s), .int (nI g), .int (nI 1), .int (nI x), .int (nI k)], [.int (F 6), .int (nI k)], MW A B F sw, 0, 0)) 3 rfl ?_
    rw [hM.2.1]
    refine wp_go (f' := ((if (nI n) ≤ (nI k) then 57 else 27), [.ref 28, .int (nI v), .int (nI s), .int (nI g), .int (nI 1), .int (nI x), .int (nI k)], [], MW A B F sw, 0, 0)) 1 rfl ?_
    refine wp_ite (fun h9 => absurd h9 (nI_ge hk (by omega))) (fun _ => ?_)
    refine wp_go (f' := (33, [.ref 28, .int (nI v), .int (nI s), .int (nI g), .int (nI 1), .int (nI x), .int (nI k)], [.int (((nI g) >>> ((nI k) &&& 31)) &&& (nI 1))], MW A B F sw, 0, 0)) 5 rfl ?_
    rw [bx_bit (by omega) (by omega)]
    refine wp_go (f' := ((if ¬ (bI (g.testBit k)) = (nI 1) then 51 else 37), [.ref 28, .int (nI v), .int (nI s), .int (nI g), .int (nI 1), .int (nI x), .int (nI k)], [], MW A B F sw, 0, 0)) 2 rfl ?_
    refine wp_ite (fun h1 => ?_) (fun h1 => ?_)
    · have h1 := bI_n1 h1
      refine wp_go (f' := (54, [.ref 28, .int (nI v), .int (nI s), .int (nI g), .int (nI 1), .int (nI x), .int ((nI k) + 1)], [], MW A B F sw, 0, 0)) 1 rfl ?_
      rw [nI_1]
      refine wp_go (f' := (18, [.ref 28, .int (nI v), .int (nI s), .int (nI g), .int (nI 1), .int (nI x), .int (nI (k + 1))], [], MW A B F sw, 0, 0)) 1 rfl ?_
      refine wp_eq ?_ ih2
      simp [h1]
    · have h1 := Classical.not_not.mp h1; have h1 := bI_1.mp h1
      refine wp_go (f' := (45, [.ref 28, .int (nI v), .int (nI s), .int (nI g), .int (nI 1), .int (nI x), .int (nI k)], [.int (nI k), .ref 29, .int (nI x)], MW A B F sw, 0, 0)) 4 rfl ?_
      refine wp_iald rfl rfl (by omega) (by decide) ?_
      rw [hM.2.2.1 k (by omega)]
      refine wp_go (f' := (48, [.ref 28, .int (nI v), .int (nI s), .int (nI g), .int (nI 1), .int (nI x), .int (nI k)], [.int ((nI (nb k)) &&& (nI s)), .int (nI x)], MW A B F sw, 0, 0)) 2 rfl ?_
      rw [bx_and]
      refine wp_go (f' := (49, [.ref 28, .int (nI v), .int (nI s), .int (nI g), .int (nI 1), .int (nI x), .int (nI k)], [.int ((nI x) ||| (nI ((nb k) &&& s)))], MW A B F sw, 0, 0)) 1 rfl ?_
      rw [bx_or]
      refine wp_go (f' := (54, [.ref 28, .int (nI v), .int (nI s), .int (nI g), .int (nI 1), .int (nI (x ||| ((nb k) &&& s))), .int ((nI k) + 1)], [], MW A B F sw, 0, 0)) 2 rfl ?_
      rw [nI_1]
      refine wp_go (f' := (18, [.ref 28, .int (nI v), .int (nI s), .int (nI g), .int (nI 1), .int (nI (x ||| ((nb k) &&& s))), .int (nI (k + 1))], [], MW A B F sw, 0, 0)) 1 rfl ?_
      refine wp_eq ?_ ih2
      simp [h1]
  · have hlt := hstep_lt (n := n) (nb := nb) hs hg
    have hge := hstep_ge n nb s g
    refine wp_go (f' := (24, [.ref 28, .int (nI v), .int (nI s), .int (nI g), .int (nI 1), .int (nI (hstep n nb s g)), .int (nI n)], [.int (F 6), .int (nI n)], MW A B F sw, 0, 0)) 3 rfl ?_
    rw [hM.2.1]
    refine wp_go (f' := ((if (nI n) ≤ (nI n) then 57 else 27), [.ref 28, .int (nI v), .int (nI s), .int (nI g), .int (nI 1), .int (nI (hstep n nb s g)), .int (nI n)], [], MW A B F sw, 0, 0)) 1 rfl ?_
    refine wp_ite (fun _ => ?_) (fun h9 => absurd (nI_le (Nat.le_refl _) (by omega)) h9)
    refine wp_go (f' := ((if (nI (hstep n nb s g)) = (nI g) then 67 else 63), [.ref 28, .int (nI v), .int (nI s), .int (nI g), .int (nI 1), .int (nI (hstep n nb s g)), .int (nI n)], [], MW A B F sw, 0, 0)) 3 rfl ?_
    refine wp_ite (fun h1 => ?_) (fun h1 => ?_)
    · have h1 : hstep n nb s g = g := (nI_eq (by omega) (by omega)).mp h1
      refine wp_go (f' := (7, [.ref 28, .int (nI v), .int (nI s), .int (nI (hstep n nb s g)), .int (nI 0), .int (nI (hstep n nb s g)), .int (nI n)], [], MW A B F sw, 0, 0)) 5 rfl ?_
      rw [itN_fix h1]
      rw [h1]
      refine wp_go (f' := ((if (nI 0) = 0 then 76 else 12), [.ref 28, .int (nI v), .int (nI s), .int (nI g), .int (nI 0), .int (nI g), .int (nI n)], [], MW A B F sw, 0, 0)) 2 rfl ?_
      refine wp_ite (fun _ => ?_) (fun h9 => absurd (rfl : nI 0 = 0) h9)
      refine wp_go (f' := (77, [.ref 28, .int (nI v), .int (nI s), .int (nI g), .int (nI 0), .int (nI g), .int (nI n)], [.int (nI g)], MW A B F sw, 0, 0)) 1 rfl ?_
      exact wp_iret rfl
    · have h1 : ¬ (hstep n nb s g = g) := fun h9 => h1 ((nI_eq (by omega) (by omega)).mpr h9)
      refine wp_go (f' := (7, [.ref 28, .int (nI v), .int (nI s), .int (nI (hstep n nb s g)), .int (nI 1), .int (nI (hstep n nb s g)), .int (nI n)], [], MW A B F sw, 0, 0)) 6 rfl ?_
      have h8 := ih (hstep n nb s g) (by omega) hlt (.int (nI (hstep n nb s g))) (.int (nI n))
      rw [itN_comm, hang_end hs hg] at h8
      exact h8
end MM
