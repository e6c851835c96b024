theorem hstep_bit {n : Nat} {nb : Nat → Nat} {s g i : Nat} (h : g.testBit i = true) : (hstep n nb s g).testBit i = true := by
  refine forN_inv (I := fun _ (x : Nat) => x.testBit i = true) h (fun k x hk hx => ?_) n (Nat.le_refl _)
  split
  · rw [Nat.testBit_or, hx]; rfl
  · exact hx
theorem hang_self (n : Nat) (nb : Nat → Nat) (v s : Nat) : (hangN n nb v s).testBit v = true := by
  have h : ∀ k, (itN (hstep n nb s) k (2 ^ v)).testBit v = true := by
    intro k
    induction k with
    | zero => exact Nat.testBit_two_pow_self
    | succ k ih => exact hstep_bit ih
  exact h 1024
theorem sd_less {a b i : Nat} (ha : a < 1024) (h1 : a.testBit i = true) (h2 : b.testBit i = true) : sd a b < a := by
  rcases Nat.lt_or_ge (sd a b) a with h | h
  · exact h
  · have e : sd a b = a := Nat.le_antisymm sd_le h
    have := sd_bit a b i ha
    rw [e, h1, h2] at this
    cases this
/-- taking away, part by part, the parts of s: m and how many there are -/
def partsC (n : Nat) (nb : Nat → Nat) (s : Nat) : Nat → Nat → Nat → Nat
  | 0, _, m => m
  | f + 1, r, m => if r = 0 then m else partsC n nb s f (sd r (hangN n nb (low r) s)) (m + 1)
def partsN (n : Nat) (nb : Nat → Nat) (s : Nat) : Nat := partsC n nb s 1024 s 0
def sepC (n : Nat) (nb : Nat → Nat) (s left : Nat) : Nat → Nat → Nat → Nat
  | 0, _, m => m
  | f + 1, r, m => if r = 0 then m else sepC n nb s left f (sd r (hangN n nb (low r) left)) (m + (if sd (reachN n nb (hangN n nb (low r) left)) (hangN n nb (low r) left) = s then 1 else 0))
/-- a separator -/
def sepN (n : Nat) (nb : Nat → Nat) (s : Nat) : Bool := decide (1 < sepC n nb s (sd (2 ^ n - 1) s) 1024 (sd (2 ^ n - 1) s) 0)
theorem partsC_0 (n : Nat) (nb : Nat → Nat) (s f m : Nat) : partsC n nb s f 0 m = m := by cases f <;> simp [partsC]
theorem sepC_0 (n : Nat) (nb : Nat → Nat) (s left f m : Nat) : sepC n nb s left f 0 m = m := by cases f <;> simp [sepC]
section MM
variable {xs : Nat → Int32} {Ls : Nat} {A : Nat → Nat → Int32} {B : Nat → Nat → Int64} {F : Nat → Int32} {sw : Bool} {n : Nat} {nb : Nat → Nat}
theorem ev_parts (hM : MI A F n nb) {s : Nat} (hs : s < 1024) : mv_Ev xs Ls 2 94 [.ref 28, .int (nI s)] (MW A B F sw) (some (.int (nI (partsN n nb s))), MW A B F sw, 0, 0) := by
  refine ev_of_wp rfl rfl rfl ?_
  have hn := hM.1
  refine wp_go (f' := (4, [.ref 28, .int (nI s), .int (nI 0), .int (nI s)], [], MW A B F sw, 0, 0)) 4 rfl ?_
  refine wh_ind (P := fun (r : Nat) => r < 1024 → ∀ m f : Nat, r ≤ f → mv_Wp xs Ls 1 6 false (some .int) mv_c94 (4, [.ref 28, .int (nI s), .int (nI m), .int (nI r)], [], MW A B F sw, 0, 0) (some (.int (nI (partsC n nb s f r m))), MW A B F sw, 0, 0)) (fun r => r) ?_ s hs 0 1024 (by omega)
  intro r ih hr m f hf
  refine wp_go (f' := ((if (nI r) = 0 then 28 else 8), [.ref 28, .int (nI s), .int (nI m), .int (nI r)], [], MW A B F sw, 0, 0)) 2 rfl ?_
  refine wp_ite (fun h1 => ?_) (fun h1 => ?_)
  · have h1 : r = 0 := (nI_eq (a := r) (b := 0) (by omega) (by omega)).mp h1
    refine wp_go (f' := (29, [.ref 28, .int (nI s), .int (nI m), .int (nI r)], [.int (nI m)], MW A B F sw, 0, 0)) 1 rfl ?_
    subst h1
    rw [partsC_0]
    exact wp_iret rfl
  · have h1 : ¬ (r = 0) := fun h9 => h1 ((nI_eq (a := r) (b := 0) (by omega) (by omega)).mpr h9)
    refine wp_go (f' := (11, [.ref 28, .int (nI s), .int (nI m), .int (nI r)], [.int (nI r), .ref 28, .int (nI r)], MW A B F sw, 0, 0)) 3 rfl ?_
    refine wp_call rfl rfl rfl (ev_up (ev_lowest (s := r) (by omega) (by omega) _) (by decide)) ?_
    refine wp_eq (f' := (14, [.ref 28, .int (nI s), .int (nI m), .int (nI r)], [.int (nI (low r)), .ref 28, .int (nI r)], MW A B F sw, 0, 0)) rfl ?_
    have hlw := low_lt (s := r) (by omega) (by omega)
    refine wp_go (f' := (15, [.ref 28, .int (nI s), .int (nI m), .int (nI r)], [.int (nI s), .int (nI (low r)), .ref 28, .int (nI r)], MW A B F sw, 0, 0)) 1 rfl ?_
    refine wp_call rfl rfl rfl (ev_up (ev_hang hM (v := low r) (s := s) (by omega) (by omega)) (by decide)) ?_
    refine wp_eq (f' := (18, [.ref 28, .int (nI s), .int (nI m), .int (nI r)], [.int (nI (hangN n nb (low r) s)), .int (nI r)], MW A B F sw, 0, 0)) rfl ?_
    have hhg := hangN_lt (n := n) (nb := nb) (v := low r) (s := s) (by omega) (by omega)
    refine wp_go (f' := (21, [.ref 28, .int (nI s), .int (nI m), .int (nI r)], [.int ((nI r) &&& ((nI (hangN n nb (low r) s)) ^^^ (-1)))], MW A B F sw, 0, 0)) 3 rfl ?_
    rw [bx_sd (by omega)]
    have hb1 : sd r (hangN n nb (low r) s) < 1024 := by first | omega | exact or_lt (by omega) (by omega) | exact and_lt (by omega) | exact and_lt_r (by omega) | exact sd_lt (by omega) | exact pow_lt (by omega)
    refine wp_go (f' := (25, [.ref 28, .int (nI s), .int ((nI m) + 1), .int (nI (sd r (hangN n nb (low r) s)))], [], MW A B F sw, 0, 0)) 2 rfl ?_
    rw [nI_1]
    refine wp_go (f' := (4, [.ref 28, .int (nI s), .int (nI (m + 1)), .int (nI (sd r (hangN n nb (low r) s)))], [], MW A B F sw, 0, 0)) 1 rfl ?_
    obtain ⟨f, rfl⟩ : ∃ f2, f = f2 + 1 := ⟨f - 1, by omega⟩
    have h9 := sd_less hr (low_bit hr h1) (hang_self n nb (low r) s)
    simp only [partsC, if_neg h1]
    exact ih _ h9 (by omega) _ _ (by omega)
theorem ev_isSeparator (hM : MI A F n nb) {s : Nat} (hs : s < 1024) : mv_Ev xs Ls 2 102 [.ref 28, .int (nI s)] (MW A B F sw) (some (.int (bI (sepN n nb s))), MW A B F sw, 0, 0) := by
  refine ev_of_wp rfl rfl rfl ?_
  have hn := hM.1
  have hal := all_lt hn
  refine wp_go (f' := (1, [.ref 28, .int (nI s), .retAddr 0, .retAddr 0, .retAddr 0, .retAddr 0], [.ref 28], MW A B F sw, 0, 0)) 1 rfl ?_
  refine wp_call rfl rfl rfl (ev_up (ev_all hM) (by decide)) ?_
  refine wp_eq (f' := (4, [.ref 28, .int (nI s), .retAddr 0, .retAddr 0, .retAddr 0, .retAddr 0], [.int (nI (2 ^ n - 1))], MW A B F sw, 0, 0)) rfl ?_
  refine wp_go (f' := (8, [.ref 28, .int (nI s), .retAddr 0, .retAddr 0, .retAddr 0, .retAddr 0], [.int ((nI (2 ^ n - 1)) &&& ((nI s) ^^^ (-1)))], MW A B F sw, 0, 0)) 4 rfl ?_
  rw [bx_sd (by omega)]
  have hb1 : sd (2 ^ n - 1) s < 1024 := by first | omega | exact or_lt (by omega) (by omega) | exact and_lt (by omega) | exact and_lt_r (by omega) | exact sd_lt (by omega) | exact pow_lt (by omega)
  refine wp_go (f' := (14, [.ref 28, .int (nI s), .int (nI (sd (2 ^ n - 1) s)), .int (nI 0), .int (nI (sd (2 ^ n - 1) s)), .retAddr 0], [], MW A B F sw, 0, 0)) 5 rfl ?_
  have hlt := sd_lt (b := s) hal
  unfold sepN
  generalize sd (2 ^ n - 1) s = t at hlt ⊢
  refine wh_ind (P := fun (r : Nat) => r < 1024 → ∀ (m f : Nat) (d5 : Value), r ≤ f → m + r ≤ 2000 → mv_Wp xs Ls 1 6 false (some .boolean) mv_c102 (14, [.ref 28, .int (nI s), .int (nI t), .int (nI m), .int (nI r), d5], [], MW A B F sw, 0, 0) (some (.int (bI (decide (1 < sepC n nb s t f r m)))), MW A B F sw, 0, 0)) (fun r => r) ?_ t hlt 0 1024 _ (by omega) (by omega)
  intro r ih hr m f d5 hf hmr
  refine wp_go (f' := ((if (nI r) = 0 then 61 else 19), [.ref 28, .int (nI s), .int (nI t), .int (nI m), .int (nI r), d5], [], MW A B F sw, 0, 0)) 2 rfl ?_
  refine wp_ite (fun h1 => ?_) (fun h1 => ?_)
  · have h1 : r = 0 := (nI_eq (a := r) (b := 0) (by omega) (by omega)).mp h1
    refine wp_go (f' := ((if (nI m) ≤ (nI 1) then 70 else 66), [.ref 28, .int (nI s), .int (nI t), .int (nI m), .int (nI r), d5], [], MW A B F sw, 0, 0)) 3 rfl ?_
    refine wp_ite (fun h2 => ?_) (fun h2 => ?_)
    · have h2 : m ≤ 1 := (nI_leI (a := m) (b := 1) (by omega) (by omega)).mp h2
      refine wp_go (f' := (71, [.ref 28, .int (nI s), .int (nI t), .int (nI m), .int (nI r), d5], [.int (nI 0)], MW A B F sw, 0, 0)) 1 rfl ?_
      subst h1
      rw [sepC_0, show decide (1 < m) = false by simp; omega]
      exact wp_zret rfl (by first | exact Or.inl rfl | exact Or.inr rfl)
    · have h2 : ¬ (m ≤ 1) := fun h9 => h2 ((nI_leI (a := m) (b := 1) (by omega) (by omega)).mpr h9)
      refine wp_go (f' := (71, [.ref 28, .int (nI s), .int (nI t), .int (nI m), .int (nI r), d5], [.int (nI 1)], MW A B F sw, 0, 0)) 2 rfl ?_
      subst h1
      rw [sepC_0, show decide (1 < m) = true by simp; omega]
      exact wp_zret rfl (by first | exact Or.inl rfl | exact Or.inr rfl)
  · have h1 : ¬ (r = 0) := fun h9 => h1 ((nI_eq (a := r) (b := 0) (by omega) (by omega)).mpr h9)
    refine wp_go (f' := (22, [.ref 28, .int (nI s), .int (nI t), .int (nI m), .int (nI r), d5], [.int (nI r), .ref 28], MW A B F sw, 0, 0)) 2 rfl ?_
    refine wp_call rfl rfl rfl (ev_up (ev_lowest (s := r) (by omega) (by omega) _) (by decide)) ?_
    refine wp_eq (f' := (25, [.ref 28, .int (nI s), .int (nI t), .int (nI m), .int (nI r), d5], [.int (nI (low r)), .ref 28], MW A B F sw, 0, 0)) rfl ?_
    have hlw := low_lt (s := r) (by omega) (by omega)
    refine wp_go (f' := (26, [.ref 28, .int (nI s), .int (nI t), .int (nI m), .int (nI r), d5], [.int (nI t), .int (nI (low r)), .ref 28], MW A B F sw, 0, 0)) 1 rfl ?_
    refine wp_call rfl rfl rfl (ev_up (ev_hang hM (v := low r) (s := t) (by omega) (by omega)) (by decide)) ?_
    refine wp_eq (f' := (29, [.ref 28, .int (nI s), .int (nI t), .int (nI m), .int (nI r), d5], [.int (nI (hangN n nb (low r) t))], MW A B F sw, 0, 0)) rfl ?_
    have hhg := hangN_lt (n := n) (nb := nb) (v := low r) (s := t) (by omega) (by omega)
    refine wp_go (f' := (35, [.ref 28, .int (nI s), .int (nI t), .int (nI m), .int (nI r), .int (nI (hangN n nb (low r) t))], [.int (nI (hangN n nb (low r) t)), .ref 28, .int (nI m)], MW A B F sw, 0, 0)) 4 rfl ?_
    refine wp_call rfl rfl rfl (ev_up (ev_around hM (s := hangN n nb (low r) t) (by omega)) (by decide)) ?_
    refine wp_eq (f' := (38, [.ref 28, .int (nI s), .int (nI t), .int (nI m), .int (nI r), .int (nI (hangN n nb (low r) t))], [.int (nI (sd (reachN n nb (hangN n nb (low r) t)) (hangN n nb (low r) t))), .int (nI m)], MW A B F sw, 0, 0)) rfl ?_
    have hra := sd_lt (b := hangN n nb (low r) t) (reachN_lt hM.1 hM.2.2.2 (hangN n nb (low r) t))
    refine wp_go (f' := ((if ¬ (nI (sd (reachN n nb (hangN n nb (low r) t)) (hangN n nb (low r) t))) = (nI s) then 46 else 42), [.ref 28, .int (nI s), .int (nI t), .int (nI m), .int (nI r), .int (nI (hangN n nb (low r) t))], [.int (nI m)], MW A B F sw, 0, 0)) 2 rfl ?_
    refine wp_ite (fun h3 => ?_) (fun h3 => ?_)
    · have h3 : ¬ (sd (reachN n nb (hangN n nb (low r) t)) (hangN n nb (low r) t) = s) := fun h9 => h3 ((nI_eq (a := sd (reachN n nb (hangN n nb (low r) t)) (hangN n nb (low r) t)) (b := s) (by omega) (by omega)).mpr h9)
      refine wp_go (f' := (48, [.ref 28, .int (nI s), .int (nI t), .int (nI m), .int (nI r), .int (nI (hangN n nb (low r) t))], [.int ((nI m) + (nI 0))], MW A B F sw, 0, 0)) 2 rfl ?_
      rw [nI_add]
      refine wp_go (f' := (56, [.ref 28, .int (nI s), .int (nI t), .int (nI (m + 0)), .int (nI r), .int (nI (hangN n nb (low r) t))], [.int ((nI r) &&& ((nI (hangN n nb (low r) t)) ^^^ (-1)))], MW A B F sw, 0, 0)) 6 rfl ?_
      rw [bx_sd (by omega)]
      have hb1 : sd r (hangN n nb (low r) t) < 1024 := by first | omega | exact or_lt (by omega) (by omega) | exact and_lt (by omega) | exact and_lt_r (by omega) | exact sd_lt (by omega) | exact pow_lt (by omega)
      refine wp_go (f' := (14, [.ref 28, .int (nI s), .int (nI t), .int (nI (m + 0)), .int (nI (sd r (hangN n nb (low r) t))), .int (nI (hangN n nb (low r) t))], [], MW A B F sw, 0, 0)) 2 rfl ?_
      obtain ⟨f, rfl⟩ : ∃ f2, f = f2 + 1 := ⟨f - 1, by omega⟩
      have h9 := sd_less hr (low_bit hr h1) (hang_self n nb (low r) t)
      simp only [sepC, if_neg h1, if_neg h3]
      exact ih _ h9 (by omega) _ _ _ (by omega) (by omega)
    · have h3 := Classical.not_not.mp h3; have h3 : sd (reachN n nb (hangN n nb (low r) t)) (hangN n nb (low r) t) = s := (nI_eq (a := sd (reachN n nb (hangN n nb (low r) t)) (hangN n nb (low r) t)) (b := s) (by omega) (by omega)).mp h3
      refine wp_go (f' := (48, [.ref 28, .int (nI s), .int (nI t), .int (nI m), .int (nI r), .int (nI (hangN n nb (low r) t))], [.int ((nI m) + (nI 1))], MW A B F sw, 0, 0)) 3 rfl ?_
      rw [nI_add]
      refine wp_go (f' := (56, [.ref 28, .int (nI s), .int (nI t), .int (nI (m + 1)), .int (nI r), .int (nI (hangN n nb (low r) t))], [.int ((nI r) &&& ((nI (hangN n nb (low r) t)) ^^^ (-1)))], MW A B F sw, 0, 0)) 6 rfl ?_
      rw [bx_sd (by omega)]
      have hb2 : sd r (hangN n nb (low r) t) < 1024 := by first | omega | exact or_lt (by omega) (by omega) | exact and_lt (by omega) | exact and_lt_r (by omega) | exact sd_lt (by omega) | exact pow_lt (by omega)
      refine wp_go (f' := (14, [.ref 28, .int (nI s), .int (nI t), .int (nI (m + 1)), .int (nI (sd r (hangN n nb (low r) t))), .int (nI (hangN n nb (low r) t))], [], MW A B F sw, 0, 0)) 2 rfl ?_
      obtain ⟨f, rfl⟩ : ∃ f2, f = f2 + 1 := ⟨f - 1, by omega⟩
      have h9 := sd_less hr (low_bit hr h1) (hang_self n nb (low r) t)
      simp only [sepC, if_neg h1, if_pos h3]
      exact ih _ h9 (by omega) _ _ _ (by omega) (by omega)
/-- the weights that the reference's object holds -/
def MWt (A : Nat → Nat → Int32) (wt : Nat → Nat) : Prop := ∀ v, v < 10 → A 30 v = nI (wt v) ∧ wt v ≤ 1000
/-- the weight of a set -/
def weightN (n : Nat) (wt : Nat → Nat) (s : Nat) : Nat := forN (fun k m => m + (if s.testBit k then wt k else 0)) n 0
theorem ev_weightOf (hM : MI A F n nb) {s : Nat} (hs : s < 1024) {wt : Nat → Nat} (hw : MWt A wt) : mv_Ev xs Ls 1 135 [.ref 28, .int (nI s)] (MW A B F sw) (some (.int (nI (weightN n wt s))), MW A B F sw, 0, 0) := by
  refine ev_of_wp rfl rfl rfl ?_
  have hn := hM.1
  refine wp_go (f' := (4, [.ref 28, .int (nI s), .int (nI 0), .int (nI 0)], [], MW A B F sw, 0, 0)) 4 rfl ?_
  refine for_ind (P := fun (k : Nat) (m : Nat) => mv_Wp xs Ls 0 6 false (some .int) mv_c135 (4, [.ref 28, .int (nI s), .int (nI m), .int (nI k)], [], MW A B F sw, 0, 0) (some (.int (nI (weightN n wt s))), MW A B F sw, 0, 0)) (f := fun k m => m + (if s.testBit k then wt k else 0)) (n := n) ?_ n 0 (Nat.le_refl _) ?_
  · intro k m hk ih
    refine wp_go (f' := (9, [.ref 28, .int (nI s), .int (nI m), .int (nI k)], [.int (F 6), .int (nI k)], MW A B F sw, 0, 0)) 3 rfl ?_
    rw [hM.2.1]
    refine wp_go (f' := ((if (nI n) ≤ (nI k) then 40 else 12), [.ref 28, .int (nI s), .int (nI m), .int (nI k)], [], MW A B F sw, 0, 0)) 1 rfl ?_
    refine wp_ite (fun h9 => absurd h9 (nI_ge hk (by omega))) (fun _ => ?_)
    refine wp_go (f' := (18, [.ref 28, .int (nI s), .int (nI m), .int (nI k)], [.int (((nI s) >>> ((nI k) &&& 31)) &&& (nI 1)), .int (nI m)], MW A B F sw, 0, 0)) 6 rfl ?_
    rw [bx_bit (by omega) (by omega)]
    refine wp_go (f' := ((if ¬ (bI (s.testBit k)) = (nI 1) then 31 else 22), [.ref 28, .int (nI s), .int (nI m), .int (nI k)], [.int (nI m)], MW A B F sw, 0, 0)) 2 rfl ?_
    refine wp_ite (fun h1 => ?_) (fun h1 => ?_)
    · have h1 := bI_n1 h1
      refine wp_go (f' := (33, [.ref 28, .int (nI s), .int (nI m), .int (nI k)], [.int ((nI m) + (nI 0))], MW A B F sw, 0, 0)) 2 rfl ?_
      rw [nI_add]
      refine wp_go (f' := (37, [.ref 28, .int (nI s), .int (nI (m + 0)), .int ((nI k) + 1)], [], MW A B F sw, 0, 0)) 2 rfl ?_
      rw [nI_1]
      refine wp_go (f' := (4, [.ref 28, .int (nI s), .int (nI (m + 0)), .int (nI (k + 1))], [], MW A B F sw, 0, 0)) 1 rfl ?_
      refine wp_eq ?_ ih
      simp [h1, nI_add]
    · have h1 := Classical.not_not.mp h1; have h1 := bI_1.mp h1
      refine wp_go (f' := (27, [.ref 28, .int (nI s), .int (nI m), .int (nI k)], [.int (nI k), .ref 30, .int (nI m)], MW A B F sw, 0, 0)) 3 rfl ?_
      refine wp_iald rfl rfl (by omega) (by decide) ?_
      rw [(hw k (by omega)).1]
      refine wp_go (f' := (33, [.ref 28, .int (nI s), .int (nI m), .int (nI k)], [.int ((nI m) + (nI (wt k)))], MW A B F sw, 0, 0)) 2 rfl ?_
      rw [nI_add]
      refine wp_go (f' := (37, [.ref 28, .int (nI s), .int (nI (m + (wt k))), .int ((nI k) + 1)], [], MW A B F sw, 0, 0)) 2 rfl ?_
      rw [nI_1]
      refine wp_go (f' := (4, [.ref 28, .int (nI s), .int (nI (m + (wt k))), .int (nI (k + 1))], [], MW A B F sw, 0, 0)) 1 rfl ?_
      refine wp_eq ?_ ih
      simp [h1, nI_add]
  · skip
    refine wp_go (f' := (9, [.ref 28, .int (nI s), .int (nI (weightN n wt s)), .int (nI n)], [.int (F 6), .int (nI n)], MW A B F sw, 0, 0)) 3 rfl ?_
    rw [hM.2.1]
    refine wp_go (f' := ((if (nI n) ≤ (nI n) then 40 else 12), [.ref 28, .int (nI s), .int (nI (weightN n wt s)), .int (nI n)], [], MW A B F sw, 0, 0)) 1 rfl ?_
    refine wp_ite (fun _ => ?_) (fun h9 => absurd (nI_le (Nat.le_refl _) (by omega)) h9)
    refine wp_go (f' := (41, [.ref 28, .int (nI s), .int (nI (weightN n wt s)), .int (nI n)], [.int (nI (weightN n wt s))], MW A B F sw, 0, 0)) 1 rfl ?_
    exact wp_iret rfl
/-- is v a vertex -/
def isV (v : Int32) (n : Nat) : Bool := decide (nI 0 ≤ v) && decide (v ≤ nI n - nI 1)
theorem isV_t {n a : Nat} (hn : n ≤ 10) (ha : a < n) : isV (nI a) n = true := by
  unfold isV
  rw [pk_sub (by omega)]
  simp only [Bool.and_eq_true, decide_eq_true_eq]
  exact ⟨nI_le (Nat.zero_le _) (by omega), nI_le (by omega) (by omega)⟩
theorem isV_ex {n : Nat} {v : Int32} (hn : n ≤ 10) (h : isV v n = true) : ∃ a, a < n ∧ v = nI a := by
  unfold isV at h
  simp only [Bool.and_eq_true, decide_eq_true_eq] at h
  obtain ⟨a, ha, rfl⟩ := nI_of (x := v) (fun h9 => absurd h.1 (Int32.not_le.mpr h9))
  by_cases h0 : n = 0
  · subst h0
    exact absurd (Int32.le_trans h.1 h.2) (by decide)
  · rw [pk_sub (by omega)] at h
    have := (nI_leI (a := a) (b := n - 1) ha (by omega)).mp h.2
    exact ⟨a, by omega, rfl⟩
theorem ev_isV_t (hM : MI A F n nb) {a : Nat} (ha : a < n) : mv_Ev xs Ls 2 87 [.ref 28, .int (nI a)] (MW A B F sw) (some (.int (nI 1)), MW A B F sw, 0, 0) := by
  have h := ev_isVertex (xs := xs) (Ls := Ls) (A := A) (B := B) (F := F) (sw := sw) (nI a)
  rw [hM.2.1] at h
  have e := isV_t hM.1 ha
  unfold isV at e
  rw [e] at h
  exact h
theorem ev_isV_f (hM : MI A F n nb) {v : Int32} (hv : isV v n = false) : mv_Ev xs Ls 2 87 [.ref 28, .int v] (MW A B F sw) (some (.int (nI 0)), MW A B F sw, 0, 0) := by
  have h := ev_isVertex (xs := xs) (Ls := Ls) (A := A) (B := B) (F := F) (sw := sw) v
  rw [hM.2.1] at h
  unfold isV at hv
  rw [hv] at h
  exact h
theorem ev_near_f (hM : MI A F n nb) {v : Int32} (hv : isV v n = false) : mv_Ev xs Ls 3 91 [.ref 28, .int v] (MW A B F sw) (some (.int (-2)), MW A B F sw, 0, 0) := by
  refine ev_of_wp rfl rfl rfl ?_
  have hn := hM.1
  refine wp_go (f' := (2, [.ref 28, .int v], [.int v, .ref 28], MW A B F sw, 0, 0)) 2 rfl ?_
  refine wp_call rfl rfl rfl (ev_up (ev_isV_f hM hv) (by decide)) ?_
  refine wp_eq (f' := (5, [.ref 28, .int v], [.int (nI 0)], MW A B F sw, 0, 0)) rfl ?_
  refine wp_go (f' := ((if (nI 0) = 0 then 17 else 8), [.ref 28, .int v], [], MW A B F sw, 0, 0)) 1 rfl ?_
  refine wp_ite (fun _ => ?_) (fun h9 => absurd (rfl : nI 0 = 0) h9)
  refine wp_go (f' := (19, [.ref 28, .int v], [.int (-2)], MW A B F sw, 0, 0)) 1 rfl ?_
  exact wp_iret rfl
theorem ev_near_t (hM : MI A F n nb) {a : Nat} (ha : a < n) : mv_Ev xs Ls 3 91 [.ref 28, .int (nI a)] (MW A B F sw) (some (.int (nI (nb a))), MW A B F sw, 0, 0) := by
  refine ev_of_wp rfl rfl rfl ?_
  have hn := hM.1
  refine wp_go (f' := (2, [.ref 28, .int (nI a)], [.int (nI a), .ref 28], MW A B F sw, 0, 0)) 2 rfl ?_
  refine wp_call rfl rfl rfl (ev_up (ev_isV_t hM (a := a) (by omega)) (by decide)) ?_
  refine wp_eq (f' := (5, [.ref 28, .int (nI a)], [.int (nI 1)], MW A B F sw, 0, 0)) rfl ?_
  refine wp_go (f' := ((if (nI 1) = 0 then 17 else 8), [.ref 28, .int (nI a)], [], MW A B F sw, 0, 0)) 1 rfl ?_
  refine wp_ite (fun h9 => absurd h9 (by decide : ¬ nI 1 = 0)) (fun _ => ?_)
  refine wp_go (f' := (13, [.ref 28, .int (nI a)], [.int (nI a), .ref 29], MW A B F sw, 0, 0)) 3 rfl ?_
  refine wp_iald rfl rfl (by omega) (by decide) ?_
  rw [hM.2.2.1 a (by omega)]
  have hnb := hM.2.2.2 a (by omega)
  refine wp_go (f' := (19, [.ref 28, .int (nI a)], [.int (nI (nb a))], MW A B F sw, 0, 0)) 1 rfl ?_
  exact wp_iret rfl
theorem ev_join_f1 (hM : MI A F n nb) {v u : Int32} (hv : isV v n = false) : mv_Ev xs Ls 3 86 [.ref 28, .int v, .int u] (MW A B F sw) (some (.int (-2)), MW A B F sw, 0, 0) := by
  refine ev_of_wp rfl rfl rfl ?_
  have hn := hM.1
  refine wp_go (f' := (2, [.ref 28, .int v, .int u], [.int v, .ref 28], MW A B F sw, 0, 0)) 2 rfl ?_
  refine wp_call rfl rfl rfl (ev_up (ev_isV_f hM hv) (by decide)) ?_
  refine wp_eq (f' := (5, [.ref 28, .int v, .int u], [.int (nI 0)], MW A B F sw, 0, 0)) rfl ?_
  refine wp_go (f' := ((if (nI 0) = 0 then 21 else 8), [.ref 28, .int v, .int u], [], MW A B F sw, 0, 0)) 1 rfl ?_
  refine wp_ite (fun _ => ?_) (fun h9 => absurd (rfl : nI 0 = 0) h9)
  refine wp_go (f' := (23, [.ref 28, .int v, .int u], [.int (-2)], MW A B F sw, 0, 0)) 1 rfl ?_
  exact wp_iret rfl
theorem ev_join_f2 (hM : MI A F n nb) {a : Nat} {u : Int32} (ha : a < n) (hu : isV u n = false) : mv_Ev xs Ls 3 86 [.ref 28, .int (nI a), .int u] (MW A B F sw) (some (.int (-2)), MW A B F sw, 0, 0) := by
  refine ev_of_wp rfl rfl rfl ?_
  have hn := hM.1
  refine wp_go (f' := (2, [.ref 28, .int (nI a), .int u], [.int (nI a), .ref 28], MW A B F sw, 0, 0)) 2 rfl ?_
  refine wp_call rfl rfl rfl (ev_up (ev_isV_t hM (a := a) (by omega)) (by decide)) ?_
  refine wp_eq (f' := (5, [.ref 28, .int (nI a), .int u], [.int (nI 1)], MW A B F sw, 0, 0)) rfl ?_
  refine wp_go (f' := ((if (nI 1) = 0 then 21 else 8), [.ref 28, .int (nI a), .int u], [], MW A B F sw, 0, 0)) 1 rfl ?_
  refine wp_ite (fun h9 => absurd h9 (by decide : ¬ nI 1 = 0)) (fun _ => ?_)
  refine wp_go (f' := (10, [.ref 28, .int (nI a), .int u], [.int u, .ref 28], MW A B F sw, 0, 0)) 2 rfl ?_
  refine wp_call rfl rfl rfl (ev_up (ev_isV_f hM hu) (by decide)) ?_
  refine wp_eq (f' := (13, [.ref 28, .int (nI a), .int u], [.int (nI 0)], MW A B F sw, 0, 0)) rfl ?_
  refine wp_go (f' := ((if (nI 0) = 0 then 21 else 16), [.ref 28, .int (nI a), .int u], [], MW A B F sw, 0, 0)) 1 rfl ?_
  refine wp_ite (fun _ => ?_) (fun h9 => absurd (rfl : nI 0 = 0) h9)
  refine wp_go (f' := (23, [.ref 28, .int (nI a), .int u], [.int (-2)], MW A B F sw, 0, 0)) 1 rfl ?_
  exact wp_iret rfl
theorem ev_join_f3 (hM : MI A F n nb) {a : Nat} (ha : a < n) : mv_Ev xs Ls 3 86 [.ref 28, .int (nI a), .int (nI a)] (MW A B F sw) (some (.int (-2)), MW A B F sw, 0, 0) := by
  refine ev_of_wp rfl rfl rfl ?_
  have hn := hM.1
  refine wp_go (f' := (2, [.ref 28, .int (nI a), .int (nI a)], [.int (nI a), .ref 28], MW A B F sw, 0, 0)) 2 rfl ?_
  refine wp_call rfl rfl rfl (ev_up (ev_isV_t hM (a := a) (by omega)) (by decide)) ?_
  refine wp_eq (f' := (5, [.ref 28, .int (nI a), .int (nI a)], [.int (nI 1)], MW A B F sw, 0, 0)) rfl ?_
  refine wp_go (f' := ((if (nI 1) = 0 then 21 else 8), [.ref 28, .int (nI a), .int (nI a)], [], MW A B F sw, 0, 0)) 1 rfl ?_
  refine wp_ite (fun h9 => absurd h9 (by decide : ¬ nI 1 = 0)) (fun _ => ?_)
  refine wp_go (f' := (10, [.ref 28, .int (nI a), .int (nI a)], [.int (nI a), .ref 28], MW A B F sw, 0, 0)) 2 rfl ?_
  refine wp_call rfl rfl rfl (ev_up (ev_isV_t hM (a := a) (by omega)) (by decide)) ?_
  refine wp_eq (f' := (13, [.ref 28, .int (nI a), .int (nI a)], [.int (nI 1)], MW A B F sw, 0, 0)) rfl ?_
  refine wp_go (f' := ((if (nI 1) = 0 then 21 else 16), [.ref 28, .int (nI a), .int (nI a)], [], MW A B F sw, 0, 0)) 1 rfl ?_
  refine wp_ite (fun h9 => absurd h9 (by decide : ¬ nI 1 = 0)) (fun _ => ?_)
  refine wp_go (f' := ((if ¬ (nI a) = (nI a) then 24 else 21), [.ref 28, .int (nI a), .int (nI a)], [], MW A B F sw, 0, 0)) 3 rfl ?_
  refine wp_ite (fun h9 => absurd h9 (fun h8 => h8 rfl : ¬ ¬ nI a = nI a)) (fun _ => ?_)
  refine wp_go (f' := (23, [.ref 28, .int (nI a), .int (nI a)], [.int (-2)], MW A B F sw, 0, 0)) 1 rfl ?_
  exact wp_iret rfl
theorem ev_part_f1 (hM : MI A F n nb) {v u : Int32} (hv : isV v n = false) : mv_Ev xs Ls 3 89 [.ref 28, .int v, .int u] (MW A B F sw) (some (.int (-2)), MW A B F sw, 0, 0) := by
  refine ev_of_wp rfl rfl rfl ?_
  have hn := hM.1
  refine wp_go (f' := (2, [.ref 28, .int v, .int u], [.int v, .ref 28], MW A B F sw, 0, 0)) 2 rfl ?_
  refine wp_call rfl rfl rfl (ev_up (ev_isV_f hM hv) (by decide)) ?_
  refine wp_eq (f' := (5, [.ref 28, .int v, .int u], [.int (nI 0)], MW A B F sw, 0, 0)) rfl ?_
  refine wp_go (f' := ((if (nI 0) = 0 then 16 else 8), [.ref 28, .int v, .int u], [], MW A B F sw, 0, 0)) 1 rfl ?_
  refine wp_ite (fun _ => ?_) (fun h9 => absurd (rfl : nI 0 = 0) h9)
  refine wp_go (f' := (18, [.ref 28, .int v, .int u], [.int (-2)], MW A B F sw, 0, 0)) 1 rfl ?_
  exact wp_iret rfl
theorem ev_part_f2 (hM : MI A F n nb) {a : Nat} {u : Int32} (ha : a < n) (hu : isV u n = false) : mv_Ev xs Ls 3 89 [.ref 28, .int (nI a), .int u] (MW A B F sw) (some (.int (-2)), MW A B F sw, 0, 0) := by
  refine ev_of_wp rfl rfl rfl ?_
  have hn := hM.1
  refine wp_go (f' := (2, [.ref 28, .int (nI a), .int u], [.int (nI a), .ref 28], MW A B F sw, 0, 0)) 2 rfl ?_
  refine wp_call rfl rfl rfl (ev_up (ev_isV_t hM (a := a) (by omega)) (by decide)) ?_
  refine wp_eq (f' := (5, [.ref 28, .int (nI a), .int u], [.int (nI 1)], MW A B F sw, 0, 0)) rfl ?_
  refine wp_go (f' := ((if (nI 1) = 0 then 16 else 8), [.ref 28, .int (nI a), .int u], [], MW A B F sw, 0, 0)) 1 rfl ?_
  refine wp_ite (fun h9 => absurd h9 (by decide : ¬ nI 1 = 0)) (fun _ => ?_)
  refine wp_go (f' := (10, [.ref 28, .int (nI a), .int u], [.int u, .ref 28], MW A B F sw, 0, 0)) 2 rfl ?_
  refine wp_call rfl rfl rfl (ev_up (ev_isV_f hM hu) (by decide)) ?_
  refine wp_eq (f' := (13, [.ref 28, .int (nI a), .int u], [.int (nI 0)], MW A B F sw, 0, 0)) rfl ?_
  refine wp_go (f' := ((if ¬ (nI 0) = 0 then 19 else 16), [.ref 28, .int (nI a), .int u], [], MW A B F sw, 0, 0)) 1 rfl ?_
  refine wp_ite (fun h9 => absurd h9 (fun h8 => h8 rfl : ¬ ¬ nI 0 = 0)) (fun _ => ?_)
  refine wp_go (f' := (18, [.ref 28, .int (nI a), .int u], [.int (-2)], MW A B F sw, 0, 0)) 1 rfl ?_
  exact wp_iret rfl
end MM
