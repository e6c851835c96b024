theorem pie_bound {nb : Nat → Nat} {g : Nat → Nat → Nat} (hg : ∀ t m, g t m ≤ m + 1) : ∀ (f t m : Nat), pieF nb g f t m ≤ m + f
  | 0, t, m => by simp [pieF]
  | f + 1, t, m => by
    rw [pieF_succ]
    split
    · omega
    · have h1 := pie_bound (nb := nb) hg f (sd (t &&& (t - 1)) (pcN nb t)) (g t m)
      have h2 := hg t m
      omega
/-- the class's test of a hole -/
def chlF (n : Nat) (nb : Nat → Nat) (s j : Nat) : Bool := forN (fun k b => b && (!(s.testBit k) || decide (pop (nb k &&& s) = 2))) j true
def chlN (n : Nat) (nb : Nat → Nat) (s : Nat) : Bool := (decide (4 ≤ pop s) && (decide (inN nb s = pop s) && decide (pcN nb s = s))) && chlF n nb s n
theorem chlF_f {n : Nat} {nb : Nat → Nat} {s k : Nat} (h : (!(s.testBit k) || decide (pop (nb k &&& s) = 2)) = false) : ∀ j, k < j → chlF n nb s j = false
  | 0, hk => by omega
  | j + 1, hk => by
    unfold chlF
    simp only [forN]
    by_cases e : k = j
    · subst e; rw [h]; simp
    · have := chlF_f (n := n) h j (by omega)
      unfold chlF at this
      rw [this]; rfl
section CC
variable {xs : Nat → Int32} {Ls : Nat} {A : Nat → Nat → Int32} {B : Nat → Nat → Int64} {F : Nat → Int32} {sw : Bool} {n : Nat} {nb : Nat → Nat}
theorem ev_fSep (hC : CI A F n nb) (hR : RI A n nb) {s : Nat} (hs : s < 1024) : mv_Ev xs Ls 2 52 [.ref 23, .int (nI s)] (MW A B F sw) (some (.int (bI (cspN n nb s))), MW A B F sw, 0, 0) := by
  refine ev_of_wp rfl rfl rfl ?_
  have hn := hC.1
  have hp := pow10 hn
  have hp1 : 1 ≤ 2 ^ n := Nat.one_le_two_pow
  have hal := all_lt hn
  have hlt := sd_lt (b := s) hal
  refine wp_go (f' := (6, [.ref 23, .int (nI s), .int (nI 0), .retAddr 0], [.ref 1], MW A B F sw, 0, 0)) 4 rfl ?_
  refine wp_call rfl rfl rfl (ev_up (ev_gAll hC) (by decide)) ?_
  refine wp_eq (f' := (9, [.ref 23, .int (nI s), .int (nI 0), .retAddr 0], [.int (nI (2 ^ n - 1))], MW A B F sw, 0, 0)) rfl ?_
  refine wp_go (f' := (13, [.ref 23, .int (nI s), .int (nI 0), .retAddr 0], [.int ((nI (2 ^ n - 1)) &&& ((nI s) ^^^ (-1)))], MW A B F sw, 0, 0)) 4 rfl ?_
  rw [bx_sd (by omega)]
  refine wp_go (f' := (14, [.ref 23, .int (nI s), .int (nI 0), .int (nI (sd (2 ^ n - 1) s))], [], MW A B F sw, 0, 0)) 1 rfl ?_
  have hln : sd (2 ^ n - 1) s < 2 ^ n := by have h9 := sd_le (a := 2 ^ n - 1) (b := s); omega
  refine pie_ind (P := fun (t m : Nat) => mv_Wp xs Ls 1 1 false (some .boolean) mv_c52 (14, [.ref 23, .int (nI s), .int (nI m), .int (nI t)], [], MW A B F sw, 0, 0) (some (.int (bI (cspN n nb s))), MW A B F sw, 0, 0)) (nb := nb) (g := fun t m => if rcN nb (pcN nb t) &&& s = s then m + 1 else m) (N := 2 ^ n) hp ?_ (sd (2 ^ n - 1) s) 0 hln ?_
  · intro t m ht ht0 ih
    have hla : t &&& (t - 1) < 1024 := and_lt (by omega)
    have hrs : rcN nb (pcN nb t) &&& s < 1024 := and_lt_r (by omega)
    refine wp_go (f' := ((if (nI t) = 0 then 65 else 18), [.ref 23, .int (nI s), .int (nI m), .int (nI t)], [], MW A B F sw, 0, 0)) 2 rfl ?_
    refine wp_ite (fun h9 => absurd h9 (fun h8 => ht0 ((nI_eq (a := t) (b := 0) (by omega) (by omega)).mp h8))) (fun _ => ?_)
    refine wp_go (f' := (33, [.ref 23, .int (nI s), .int (nI m), .int (nI t)], [.int (nI t), .ref 6, .ref 4], MW A B F sw, 0, 0)) 7 rfl ?_
    refine wp_iald rfl rfl (by omega) (by decide) ?_
    rw [(hR t (by omega)).2.2]
    have hpcl := pc_le (nb := nb) (s := t) (by omega)
    refine wp_iald rfl rfl (by omega) (by decide) ?_
    rw [(hR (pcN nb t) (by omega)).1]
    have hrcl := rc_lt hC.2.2.2 (pcN nb t) (by omega)
    refine wp_go (f' := (37, [.ref 23, .int (nI s), .int (nI m), .int (nI t)], [.int ((nI (rcN nb (pcN nb t))) &&& (nI s))], MW A B F sw, 0, 0)) 2 rfl ?_
    rw [bx_and]
    refine wp_go (f' := ((if ¬ (nI ((rcN nb (pcN nb t)) &&& s)) = (nI s) then 44 else 41), [.ref 23, .int (nI s), .int (nI m), .int (nI t)], [], MW A B F sw, 0, 0)) 2 rfl ?_
    refine wp_ite (fun h1 => ?_) (fun h1 => ?_)
    · have h1 : ¬ ((rcN nb (pcN nb t)) &&& s = s) := fun h9 => h1 ((nI_eq (a := (rcN nb (pcN nb t)) &&& s) (b := s) (by omega) (by omega)).mpr h9)
      refine wp_go (f' := (48, [.ref 23, .int (nI s), .int (nI m), .int (nI t)], [.int ((nI t) - (nI 1)), .int (nI t)], MW A B F sw, 0, 0)) 4 rfl ?_
      rw [pk_sub (by omega)]
      refine wp_go (f' := (49, [.ref 23, .int (nI s), .int (nI m), .int (nI t)], [.int ((nI t) &&& (nI (t - 1)))], MW A B F sw, 0, 0)) 1 rfl ?_
      rw [bx_and]
      refine wp_go (f' := (57, [.ref 23, .int (nI s), .int (nI m), .int (nI t)], [.int (nI t), .ref 6, .int (nI (t &&& (t - 1)))], MW A B F sw, 0, 0)) 4 rfl ?_
      refine wp_iald rfl rfl (by omega) (by decide) ?_
      rw [(hR t (by omega)).2.2]
      have hpcl := pc_le (nb := nb) (s := t) (by omega)
      refine wp_go (f' := (61, [.ref 23, .int (nI s), .int (nI m), .int (nI t)], [.int ((nI (t &&& (t - 1))) &&& ((nI (pcN nb t)) ^^^ (-1)))], MW A B F sw, 0, 0)) 3 rfl ?_
      rw [bx_sd (by omega)]
      refine wp_go (f' := (14, [.ref 23, .int (nI s), .int (nI m), .int (nI (sd (t &&& (t - 1)) (pcN nb t)))], [], MW A B F sw, 0, 0)) 2 rfl ?_
      refine wp_eq ?_ ih
      simp [h1]
    · have h1 := Classical.not_not.mp h1; have h1 : (rcN nb (pcN nb t)) &&& s = s := (nI_eq (a := (rcN nb (pcN nb t)) &&& s) (b := s) (by omega) (by omega)).mp h1
      refine wp_go (f' := (44, [.ref 23, .int (nI s), .int ((nI m) + 1), .int (nI t)], [], MW A B F sw, 0, 0)) 1 rfl ?_
      rw [nI_1]
      refine wp_go (f' := (48, [.ref 23, .int (nI s), .int (nI (m + 1)), .int (nI t)], [.int ((nI t) - (nI 1)), .int (nI t)], MW A B F sw, 0, 0)) 4 rfl ?_
      rw [pk_sub (by omega)]
      refine wp_go (f' := (49, [.ref 23, .int (nI s), .int (nI (m + 1)), .int (nI t)], [.int ((nI t) &&& (nI (t - 1)))], MW A B F sw, 0, 0)) 1 rfl ?_
      rw [bx_and]
      refine wp_go (f' := (57, [.ref 23, .int (nI s), .int (nI (m + 1)), .int (nI t)], [.int (nI t), .ref 6, .int (nI (t &&& (t - 1)))], MW A B F sw, 0, 0)) 4 rfl ?_
      refine wp_iald rfl rfl (by omega) (by decide) ?_
      rw [(hR t (by omega)).2.2]
      have hpcl := pc_le (nb := nb) (s := t) (by omega)
      refine wp_go (f' := (61, [.ref 23, .int (nI s), .int (nI (m + 1)), .int (nI t)], [.int ((nI (t &&& (t - 1))) &&& ((nI (pcN nb t)) ^^^ (-1)))], MW A B F sw, 0, 0)) 3 rfl ?_
      rw [bx_sd (by omega)]
      refine wp_go (f' := (14, [.ref 23, .int (nI s), .int (nI (m + 1)), .int (nI (sd (t &&& (t - 1)) (pcN nb t)))], [], MW A B F sw, 0, 0)) 2 rfl ?_
      refine wp_eq ?_ ih
      simp [h1]
  · have hpb : pieN nb (fun t m => if rcN nb (pcN nb t) &&& s = s then m + 1 else m) (sd (2 ^ n - 1) s) 0 ≤ 0 + 1024 := pie_bound (fun t m => by split <;> omega) 1024 _ _
    refine wp_go (f' := ((if (nI 0) = 0 then 65 else 18), [.ref 23, .int (nI s), .int (nI (pieN nb (fun t m => if rcN nb (pcN nb t) &&& s = s then m + 1 else m) (sd (2 ^ n - 1) s) 0)), .int (nI 0)], [], MW A B F sw, 0, 0)) 2 rfl ?_
    refine wp_ite (fun _ => ?_) (fun h9 => absurd (rfl : nI 0 = 0) h9)
    refine wp_go (f' := ((if (nI (pieN nb (fun t m => if rcN nb (pcN nb t) &&& s = s then m + 1 else m) (sd (2 ^ n - 1) s) 0)) < (nI 2) then 74 else 70), [.ref 23, .int (nI s), .int (nI (pieN nb (fun t m => if rcN nb (pcN nb t) &&& s = s then m + 1 else m) (sd (2 ^ n - 1) s) 0)), .int (nI 0)], [], MW A B F sw, 0, 0)) 3 rfl ?_
    refine wp_ite (fun h1 => ?_) (fun h1 => ?_)
    · have h1 : pieN nb (fun t m => if rcN nb (pcN nb t) &&& s = s then m + 1 else m) (sd (2 ^ n - 1) s) 0 < 2 := (nI_ltI (a := pieN nb (fun t m => if rcN nb (pcN nb t) &&& s = s then m + 1 else m) (sd (2 ^ n - 1) s) 0) (b := 2) (by omega) (by omega)).mp h1
      refine wp_go (f' := (75, [.ref 23, .int (nI s), .int (nI (pieN nb (fun t m => if rcN nb (pcN nb t) &&& s = s then m + 1 else m) (sd (2 ^ n - 1) s) 0)), .int (nI 0)], [.int (nI 0)], MW A B F sw, 0, 0)) 1 rfl ?_
      rw [show cspN n nb s = false from ?_]
      · exact wp_zret rfl (by first | exact Or.inl rfl | exact Or.inr rfl)
      · unfold cspN; exact decide_eq_false (by omega)
    · have h1 : ¬ (pieN nb (fun t m => if rcN nb (pcN nb t) &&& s = s then m + 1 else m) (sd (2 ^ n - 1) s) 0 < 2) := fun h9 => h1 ((nI_ltI (a := pieN nb (fun t m => if rcN nb (pcN nb t) &&& s = s then m + 1 else m) (sd (2 ^ n - 1) s) 0) (b := 2) (by omega) (by omega)).mpr h9)
      refine wp_go (f' := (75, [.ref 23, .int (nI s), .int (nI (pieN nb (fun t m => if rcN nb (pcN nb t) &&& s = s then m + 1 else m) (sd (2 ^ n - 1) s) 0)), .int (nI 0)], [.int (nI 1)], MW A B F sw, 0, 0)) 2 rfl ?_
      rw [show cspN n nb s = true from ?_]
      · exact wp_zret rfl (by first | exact Or.inl rfl | exact Or.inr rfl)
      · unfold cspN; exact decide_eq_true (by omega)
theorem lp_F_separatorAt (hC : CI A F n nb) (hR : RI A n nb) {k : Int32} : ∀ (f s m : Nat), s + f = 2 ^ n → m ≤ s → mv_Wp xs Ls 2 1 false (some .int) mv_c51 (20, [.ref 23, .int k, .int (nI m), .int (nI (2 ^ n - 1)), .int (nI s)], [], MW A B F sw, 0, 0) (some (.int (pickN (cspN n nb) k f s m)), MW A B F sw, 0, 0) := by
  have hn := hC.1
  have hp := pow10 hn
  have hp1 : 1 ≤ 2 ^ n := Nat.one_le_two_pow
  have hal := all_lt hn
  intro f
  induction f with
  | zero =>
    intro s m hs hms
    refine wp_go (f' := ((if (nI (2 ^ n - 1)) < (nI s) then 52 else 26), [.ref 23, .int k, .int (nI m), .int (nI (2 ^ n - 1)), .int (nI s)], [], MW A B F sw, 0, 0)) 3 rfl ?_
    refine wp_ite (fun _ => ?_) (fun h9 => absurd (nI_lt (by omega) (by omega)) h9)
    refine wp_go (f' := (53, [.ref 23, .int k, .int (nI m), .int (nI (2 ^ n - 1)), .int (nI s)], [.int (-1)], MW A B F sw, 0, 0)) 1 rfl ?_
    exact wp_iret rfl
  | succ f ih =>
    intro s m hs hms
    refine wp_go (f' := ((if (nI (2 ^ n - 1)) < (nI s) then 52 else 26), [.ref 23, .int k, .int (nI m), .int (nI (2 ^ n - 1)), .int (nI s)], [], MW A B F sw, 0, 0)) 3 rfl ?_
    refine wp_ite (fun h9 => absurd h9 (nI_nlt (by omega) (by omega))) (fun _ => ?_)
    refine wp_go (f' := (29, [.ref 23, .int k, .int (nI m), .int (nI (2 ^ n - 1)), .int (nI s)], [.int (nI s), .ref 23], MW A B F sw, 0, 0)) 2 rfl ?_
    refine wp_call rfl rfl rfl (ev_up (ev_fSep hC hR (s := s) (by omega)) (by decide)) ?_
    refine wp_eq (f' := (32, [.ref 23, .int k, .int (nI m), .int (nI (2 ^ n - 1)), .int (nI s)], [.int (bI (cspN n nb s))], MW A B F sw, 0, 0)) rfl ?_
    refine wp_go (f' := ((if (bI (cspN n nb s)) = 0 then 46 else 35), [.ref 23, .int k, .int (nI m), .int (nI (2 ^ n - 1)), .int (nI s)], [], MW A B F sw, 0, 0)) 1 rfl ?_
    refine wp_ite (fun h1 => ?_) (fun h1 => ?_)
    · have h1 := bI_0.mp h1
      refine wp_go (f' := (49, [.ref 23, .int k, .int (nI m), .int (nI (2 ^ n - 1)), .int ((nI s) + 1)], [], MW A B F sw, 0, 0)) 1 rfl ?_
      rw [nI_1]
      refine wp_go (f' := (20, [.ref 23, .int k, .int (nI m), .int (nI (2 ^ n - 1)), .int (nI (s + 1))], [], MW A B F sw, 0, 0)) 1 rfl ?_
      simp only [pickN, h1, if_true, if_false, Bool.false_eq_true, reduceIte]
      exact ih (s + 1) m (by omega) (by omega)
    · have h1 := bI_n0 h1
      refine wp_go (f' := ((if ¬ (nI m) = k then 43 else 40), [.ref 23, .int k, .int (nI m), .int (nI (2 ^ n - 1)), .int (nI s)], [], MW A B F sw, 0, 0)) 3 rfl ?_
      refine wp_ite (fun h2 => ?_) (fun h2 => ?_)
      · skip
        refine wp_go (f' := (46, [.ref 23, .int k, .int ((nI m) + 1), .int (nI (2 ^ n - 1)), .int (nI s)], [], MW A B F sw, 0, 0)) 1 rfl ?_
        rw [nI_1]
        refine wp_go (f' := (49, [.ref 23, .int k, .int (nI (m + 1)), .int (nI (2 ^ n - 1)), .int ((nI s) + 1)], [], MW A B F sw, 0, 0)) 1 rfl ?_
        rw [nI_1]
        refine wp_go (f' := (20, [.ref 23, .int k, .int (nI (m + 1)), .int (nI (2 ^ n - 1)), .int (nI (s + 1))], [], MW A B F sw, 0, 0)) 1 rfl ?_
        simp only [pickN, h1, if_true, if_false, Bool.false_eq_true, reduceIte, if_neg h2]
        exact ih (s + 1) (m + 1) (by omega) (by omega)
      · have h2 := Classical.not_not.mp h2
        refine wp_go (f' := (42, [.ref 23, .int k, .int (nI m), .int (nI (2 ^ n - 1)), .int (nI s)], [.int (nI s)], MW A B F sw, 0, 0)) 1 rfl ?_
        simp only [pickN, h1, if_true, reduceIte, if_pos h2]
        exact wp_iret rfl
theorem lp_F_cliqueAt (hC : CI A F n nb) {k : Int32} : ∀ (f s m : Nat), s + f = 2 ^ n → m ≤ s → mv_Wp xs Ls 2 1 false (some .int) mv_c54 (13, [.ref 23, .int k, .int (nI m), .int (nI (2 ^ n - 1)), .int (nI s)], [], MW A B F sw, 0, 0) (some (.int (pickN (cclN n nb) k f s m)), MW A B F sw, 0, 0) := by
  have hn := hC.1
  have hp := pow10 hn
  have hp1 : 1 ≤ 2 ^ n := Nat.one_le_two_pow
  have hal := all_lt hn
  intro f
  induction f with
  | zero =>
    intro s m hs hms
    refine wp_go (f' := ((if (nI (2 ^ n - 1)) < (nI s) then 45 else 19), [.ref 23, .int k, .int (nI m), .int (nI (2 ^ n - 1)), .int (nI s)], [], MW A B F sw, 0, 0)) 3 rfl ?_
    refine wp_ite (fun _ => ?_) (fun h9 => absurd (nI_lt (by omega) (by omega)) h9)
    refine wp_go (f' := (46, [.ref 23, .int k, .int (nI m), .int (nI (2 ^ n - 1)), .int (nI s)], [.int (-1)], MW A B F sw, 0, 0)) 1 rfl ?_
    exact wp_iret rfl
  | succ f ih =>
    intro s m hs hms
    refine wp_go (f' := ((if (nI (2 ^ n - 1)) < (nI s) then 45 else 19), [.ref 23, .int k, .int (nI m), .int (nI (2 ^ n - 1)), .int (nI s)], [], MW A B F sw, 0, 0)) 3 rfl ?_
    refine wp_ite (fun h9 => absurd h9 (nI_nlt (by omega) (by omega))) (fun _ => ?_)
    refine wp_go (f' := (22, [.ref 23, .int k, .int (nI m), .int (nI (2 ^ n - 1)), .int (nI s)], [.int (nI s), .ref 23], MW A B F sw, 0, 0)) 2 rfl ?_
    refine wp_call rfl rfl rfl (ev_up (ev_fClique hC (s := s) (by omega)) (by decide)) ?_
    refine wp_eq (f' := (25, [.ref 23, .int k, .int (nI m), .int (nI (2 ^ n - 1)), .int (nI s)], [.int (bI (cclN n nb s))], MW A B F sw, 0, 0)) rfl ?_
    refine wp_go (f' := ((if (bI (cclN n nb s)) = 0 then 39 else 28), [.ref 23, .int k, .int (nI m), .int (nI (2 ^ n - 1)), .int (nI s)], [], MW A B F sw, 0, 0)) 1 rfl ?_
    refine wp_ite (fun h1 => ?_) (fun h1 => ?_)
    · have h1 := bI_0.mp h1
      refine wp_go (f' := (42, [.ref 23, .int k, .int (nI m), .int (nI (2 ^ n - 1)), .int ((nI s) + 1)], [], MW A B F sw, 0, 0)) 1 rfl ?_
      rw [nI_1]
      refine wp_go (f' := (13, [.ref 23, .int k, .int (nI m), .int (nI (2 ^ n - 1)), .int (nI (s + 1))], [], MW A B F sw, 0, 0)) 1 rfl ?_
      simp only [pickN, h1, if_true, if_false, Bool.false_eq_true, reduceIte]
      exact ih (s + 1) m (by omega) (by omega)
    · have h1 := bI_n0 h1
      refine wp_go (f' := ((if ¬ (nI m) = k then 36 else 33), [.ref 23, .int k, .int (nI m), .int (nI (2 ^ n - 1)), .int (nI s)], [], MW A B F sw, 0, 0)) 3 rfl ?_
      refine wp_ite (fun h2 => ?_) (fun h2 => ?_)
      · skip
        refine wp_go (f' := (39, [.ref 23, .int k, .int ((nI m) + 1), .int (nI (2 ^ n - 1)), .int (nI s)], [], MW A B F sw, 0, 0)) 1 rfl ?_
        rw [nI_1]
        refine wp_go (f' := (42, [.ref 23, .int k, .int (nI (m + 1)), .int (nI (2 ^ n - 1)), .int ((nI s) + 1)], [], MW A B F sw, 0, 0)) 1 rfl ?_
        rw [nI_1]
        refine wp_go (f' := (13, [.ref 23, .int k, .int (nI (m + 1)), .int (nI (2 ^ n - 1)), .int (nI (s + 1))], [], MW A B F sw, 0, 0)) 1 rfl ?_
        simp only [pickN, h1, if_true, if_false, Bool.false_eq_true, reduceIte, if_neg h2]
        exact ih (s + 1) (m + 1) (by omega) (by omega)
      · have h2 := Classical.not_not.mp h2
        refine wp_go (f' := (35, [.ref 23, .int k, .int (nI m), .int (nI (2 ^ n - 1)), .int (nI s)], [.int (nI s)], MW A B F sw, 0, 0)) 1 rfl ?_
        simp only [pickN, h1, if_true, reduceIte, if_pos h2]
        exact wp_iret rfl
theorem ev_fCliqueAt (hC : CI A F n nb) (k : Int32) : mv_Ev xs Ls 3 54 [.ref 23, .int k] (MW A B F sw) (some (.int (pickN (cclN n nb) k (2 ^ n - 1) 1 0)), MW A B F sw, 0, 0) := by
  refine ev_of_wp rfl rfl rfl ?_
  have hn := hC.1
  have hp := pow10 hn
  have hp1 : 1 ≤ 2 ^ n := Nat.one_le_two_pow
  have hal := all_lt hn
  refine wp_go (f' := (6, [.ref 23, .int k, .int (nI 0), .retAddr 0, .retAddr 0], [.ref 1], MW A B F sw, 0, 0)) 4 rfl ?_
  refine wp_call rfl rfl rfl (ev_up (ev_gAll hC) (by decide)) ?_
  refine wp_eq (f' := (9, [.ref 23, .int k, .int (nI 0), .retAddr 0, .retAddr 0], [.int (nI (2 ^ n - 1))], MW A B F sw, 0, 0)) rfl ?_
  refine wp_go (f' := (13, [.ref 23, .int k, .int (nI 0), .int (nI (2 ^ n - 1)), .int (nI 1)], [], MW A B F sw, 0, 0)) 3 rfl ?_
  exact lp_F_cliqueAt hC (2 ^ n - 1) 1 0 (by omega) (by omega)
theorem ev_bClique (hC : CI A F n nb) (k : Int32) : mv_Ev xs Ls 4 53 [.ref 0, .int k] (MW A B F sw) (some (.int (pickN (cclN n nb) k (2 ^ n - 1) 1 0)), MW A B F sw, 0, 0) := by
  refine ev_of_wp rfl rfl rfl ?_
  have hn := hC.1
  have hp := pow10 hn
  have hp1 : 1 ≤ 2 ^ n := Nat.one_le_two_pow
  have hal := all_lt hn
  refine wp_go (f' := (5, [.ref 0, .int k], [.int k, .ref 23], MW A B F sw, 0, 0)) 3 rfl ?_
  refine wp_call rfl rfl rfl (ev_up (ev_fCliqueAt hC k) (by decide)) ?_
  refine wp_eq (f' := (8, [.ref 0, .int k], [.int (pickN (cclN n nb) k (2 ^ n - 1) 1 0)], MW A B F sw, 0, 0)) rfl ?_
  exact wp_iret rfl
theorem wp_deep {d e cls : Nat} {ini : Bool} {ret : Option FieldType} {code : List (Nat × Instr × Nat)} {f : mv_F} {r : mv_R} (h : mv_Wp xs Ls d cls ini ret code f r) (hde : d ≤ e) : mv_Wp xs Ls e cls ini ret code f r := by
  obtain ⟨N0, h⟩ := h
  exact ⟨N0, fun N n hN hn => mv_run_le (mv_call_up N hde) _ _ _ (h N n hN hn)⟩
theorem lq_sepAt (hC : CI A F n nb) (hR : RI A n nb) (k : Int32) : mv_Wp xs Ls 3 1 false (some .int) mv_c51 (7, [.ref 23, .int k, .retAddr 0, .retAddr 0, .retAddr 0], [], MW A B F sw, 0, 0) (some (.int (pickN (cspN n nb) k (2 ^ n) 0 0)), MW A B F sw, 0, 0) := by
  have hn := hC.1
  have hp := pow10 hn
  have hp1 : 1 ≤ 2 ^ n := Nat.one_le_two_pow
  have hal := all_lt hn
  refine wp_go (f' := (13, [.ref 23, .int k, .int (nI 0), .retAddr 0, .retAddr 0], [.ref 1], MW A B F sw, 0, 0)) 4 rfl ?_
  refine wp_call rfl rfl rfl (ev_up (ev_gAll hC) (by decide)) ?_
  refine wp_eq (f' := (16, [.ref 23, .int k, .int (nI 0), .retAddr 0, .retAddr 0], [.int (nI (2 ^ n - 1))], MW A B F sw, 0, 0)) rfl ?_
  refine wp_go (f' := (20, [.ref 23, .int k, .int (nI 0), .int (nI (2 ^ n - 1)), .int (nI 0)], [], MW A B F sw, 0, 0)) 3 rfl ?_
  exact wp_deep (lp_F_separatorAt hC hR (2 ^ n) 0 0 (by omega) (by omega)) (by omega)
theorem ev_fSepAt (hC : CI A F n nb) (hZ : CZ A) (hco : F 3 = F 2 → RI A n nb) (k : Int32) : ∃ r4 r5 r6 : Nat → Int32, mv_Ev xs Ls 4 51 [.ref 23, .int k] (MW A B F sw) (some (.int (pickN (cspN n nb) k (2 ^ n) 0 0)), MW (upA (upA (upA A 4 r4) 5 r5) 6 r6) B (upF F 3 (F 2)) sw, 0, 0) ∧ RI (upA (upA (upA A 4 r4) 5 r5) 6 r6) n nb ∧ CZ (upA (upA (upA A 4 r4) 5 r5) 6 r6) := by
  obtain ⟨r4, r5, r6, hev, hR, hZ2⟩ := ev_rows_any (xs := xs) (Ls := Ls) (B := B) (sw := sw) hC hZ hco
  refine ⟨r4, r5, r6, ?_, hR, hZ2⟩
  refine ev_of_wp rfl rfl rfl ?_
  refine wp_go (f' := (4, [.ref 23, .int k, .retAddr 0, .retAddr 0, .retAddr 0], [.ref 1], MW A B F sw, 0, 0)) 2 rfl ?_
  refine wp_call rfl rfl rfl (ev_up hev (by decide)) ?_
  exact lq_sepAt (A := upA (upA (upA A 4 r4) 5 r5) 6 r6) (F := upF F 3 (F 2)) hC hR k
theorem ev_bSep (hC : CI A F n nb) (hZ : CZ A) (hco : F 3 = F 2 → RI A n nb) (k : Int32) : ∃ r4 r5 r6 : Nat → Int32, mv_Ev xs Ls 5 50 [.ref 0, .int k] (MW A B F sw) (some (.int (pickN (cspN n nb) k (2 ^ n) 0 0)), MW (upA (upA (upA A 4 r4) 5 r5) 6 r6) B (upF F 3 (F 2)) sw, 0, 0) ∧ RI (upA (upA (upA A 4 r4) 5 r5) 6 r6) n nb ∧ CZ (upA (upA (upA A 4 r4) 5 r5) 6 r6) := by
  obtain ⟨r4, r5, r6, hev, hR, hZ2⟩ := ev_fSepAt (xs := xs) (Ls := Ls) (B := B) (sw := sw) hC hZ hco k
  refine ⟨r4, r5, r6, ?_, hR, hZ2⟩
  refine ev_of_wp rfl rfl rfl ?_
  refine wp_go (f' := (5, [.ref 0, .int k], [.int k, .ref 23], MW A B F sw, 0, 0)) 3 rfl ?_
  refine wp_call rfl rfl rfl (ev_up hev (by decide)) ?_
  exact wp_iret rfl
end CC
