/-- one part after the other -/
def cprN (n : Nat) (nb : Nat → Nat) : Nat := pieN nb (fun _ m => m + 1) (2 ^ n - 1) 0
def cholesN (n : Nat) (nb : Nat → Nat) : Nat := forN (fun k m => if chlN n nb k then m + 1 else m) (2 ^ n) 0
def cshortN (n : Nat) (nb : Nat → Nat) : Int32 := forN (fun k (m : Int32) => if chlN n nb k = true ∧ (m = -1 ∨ nI (pop k) < m) then nI (pop k) else m) (2 ^ n) (-1)
/-- a vertex of s with the fewest links into s, and how many these are -/
def looseN (n : Nat) (nb : Nat → Nat) (s : Nat) : Nat × Nat := forN (fun k q => if s.testBit k = true ∧ pop (nb k &&& s) < q.2 then (k, pop (nb k &&& s)) else q) n (0, 1000)
def looseV (n : Nat) (nb : Nat → Nat) (s : Nat) : Nat := (looseN n nb s).1
theorem loose_ok {n : Nat} {nb : Nat → Nat} {s : Nat} (hs : s < 1024) (j : Nat) : (forN (fun k (q : Nat × Nat) => if s.testBit k = true ∧ pop (nb k &&& s) < q.2 then (k, pop (nb k &&& s)) else q) j (0, 1000)).1 ≤ j - 1 ∧ (forN (fun k (q : Nat × Nat) => if s.testBit k = true ∧ pop (nb k &&& s) < q.2 then (k, pop (nb k &&& s)) else q) j (0, 1000)).2 ≤ 1000 := by
  refine forN_inv (I := fun k (q : Nat × Nat) => q.1 ≤ k - 1 ∧ q.2 ≤ 1000) ⟨by omega, by omega⟩ (fun k q hk hq => ?_) j (Nat.le_refl _)
  have := pop_le (s := nb k &&& s) (and_lt_r hs)
  split
  · exact ⟨by omega, by omega⟩
  · exact ⟨by omega, by omega⟩
def ccoreN (n : Nat) (nb : Nat → Nat) (j : Nat) : Nat × Nat := forN (fun _ q => (sd q.1 (2 ^ (looseV n nb q.1)), if q.2 < pop (nb (looseV n nb q.1) &&& q.1) then pop (nb (looseV n nb q.1) &&& q.1) else q.2)) j (2 ^ n - 1, 0)
theorem ccore_ok {n : Nat} (hn : n ≤ 10) {nb : Nat → Nat} (j : Nat) : (ccoreN n nb j).1 < 1024 ∧ (ccoreN n nb j).2 ≤ 10 := by
  have hal := all_lt hn
  refine forN_inv (I := fun k (q : Nat × Nat) => q.1 < 1024 ∧ q.2 ≤ 10) ⟨hal, by omega⟩ (fun k q hk hq => ?_) j (Nat.le_refl _)
  have := pop_le (s := nb (looseV n nb q.1) &&& q.1) (and_lt_r hq.1)
  refine ⟨sd_lt hq.1, ?_⟩
  show (if _ then _ else _) ≤ 10
  split
  · omega
  · omega
section CC
variable {xs : Nat → Int32} {Ls : Nat} {A : Nat → Nat → Int32} {B : Nat → Nat → Int64} {F : Nat → Int32} {sw : Bool} {n : Nat} {nb : Nat → Nat}
theorem lq_gPieces (hC : CI A F n nb) (hR : RI A n nb)  : mv_Wp xs Ls 3 2 false (some .int) mv_c16 (4, [.ref 1, .retAddr 0, .retAddr 0], [], MW A B F sw, 0, 0) (some (.int (nI (cprN n nb))), MW A B F sw, 0, 0) := by
  have hn := hC.1
  have hp := pow10 hn
  have hp1 : 1 ≤ 2 ^ n := Nat.one_le_two_pow
  have hal := all_lt hn
  refine wp_go (f' := (7, [.ref 1, .int (nI 0), .retAddr 0], [.ref 1], MW A B F sw, 0, 0)) 3 rfl ?_
  refine wp_call rfl rfl rfl (ev_up (ev_gAll hC) (by decide)) ?_
  refine wp_eq (f' := (10, [.ref 1, .int (nI 0), .retAddr 0], [.int (nI (2 ^ n - 1))], MW A B F sw, 0, 0)) rfl ?_
  refine wp_go (f' := (11, [.ref 1, .int (nI 0), .int (nI (2 ^ n - 1))], [], MW A B F sw, 0, 0)) 1 rfl ?_
  refine pie_ind (P := fun (t m : Nat) => mv_Wp xs Ls 3 2 false (some .int) mv_c16 (11, [.ref 1, .int (nI m), .int (nI t)], [], MW A B F sw, 0, 0) (some (.int (nI (cprN n nb))), MW A B F sw, 0, 0)) (nb := nb) (g := fun _ m => m + 1) (N := 2 ^ n) hp ?_ (2 ^ n - 1) 0 (by omega) ?_
  · intro t m ht ht0 ih
    have hla : t &&& (t - 1) < 1024 := and_lt (by omega)
    refine wp_go (f' := ((if (nI t) = 0 then 36 else 15), [.ref 1, .int (nI m), .int (nI t)], [], MW A B F sw, 0, 0)) 2 rfl ?_
    refine wp_ite (fun h9 => absurd h9 (fun h8 => ht0 ((nI_eq (a := t) (b := 0) (by omega) (by omega)).mp h8))) (fun _ => ?_)
    refine wp_go (f' := (18, [.ref 1, .int ((nI m) + 1), .int (nI t)], [], MW A B F sw, 0, 0)) 1 rfl ?_
    rw [nI_1]
    refine wp_go (f' := (22, [.ref 1, .int (nI (m + 1)), .int (nI t)], [.int ((nI t) - (nI 1)), .int (nI t)], MW A B F sw, 0, 0)) 4 rfl ?_
    rw [pk_sub (by omega)]
    refine wp_go (f' := (23, [.ref 1, .int (nI (m + 1)), .int (nI t)], [.int ((nI t) &&& (nI (t - 1)))], MW A B F sw, 0, 0)) 1 rfl ?_
    rw [bx_and]
    refine wp_go (f' := (28, [.ref 1, .int (nI (m + 1)), .int (nI t)], [.int (nI t), .ref 6, .int (nI (t &&& (t - 1)))], MW A B F sw, 0, 0)) 3 rfl ?_
    refine wp_iald rfl rfl (by omega) (by decide) ?_
    rw [(hR t (by omega)).2.2]
    have hpcl := pc_le (nb := nb) (s := t) (by omega)
    refine wp_go (f' := (32, [.ref 1, .int (nI (m + 1)), .int (nI t)], [.int ((nI (t &&& (t - 1))) &&& ((nI (pcN nb t)) ^^^ (-1)))], MW A B F sw, 0, 0)) 3 rfl ?_
    rw [bx_sd (by omega)]
    refine wp_go (f' := (11, [.ref 1, .int (nI (m + 1)), .int (nI (sd (t &&& (t - 1)) (pcN nb t)))], [], MW A B F sw, 0, 0)) 2 rfl ?_
    exact ih
  · skip
    refine wp_go (f' := ((if (nI 0) = 0 then 36 else 15), [.ref 1, .int (nI (cprN n nb)), .int (nI 0)], [], MW A B F sw, 0, 0)) 2 rfl ?_
    refine wp_ite (fun _ => ?_) (fun h9 => absurd (rfl : nI 0 = 0) h9)
    refine wp_go (f' := (37, [.ref 1, .int (nI (cprN n nb)), .int (nI 0)], [.int (nI (cprN n nb))], MW A B F sw, 0, 0)) 1 rfl ?_
    exact wp_iret rfl
theorem ev_gPieces (hC : CI A F n nb) (hZ : CZ A) (hco : F 3 = F 2 → RI A n nb)  : ∃ r4 r5 r6 : Nat → Int32, mv_Ev xs Ls 4 16 [.ref 1] (MW A B F sw) (some (.int (nI (cprN n nb))), MW (upA (upA (upA A 4 r4) 5 r5) 6 r6) B (upF F 3 (F 2)) sw, 0, 0) ∧ RI (upA (upA (upA A 4 r4) 5 r5) 6 r6) n nb ∧ CZ (upA (upA (upA A 4 r4) 5 r5) 6 r6) := by
  obtain ⟨r4, r5, r6, hev, hR, hZ2⟩ := ev_rows_any (xs := xs) (Ls := Ls) (B := B) (sw := sw) hC hZ hco
  refine ⟨r4, r5, r6, ?_, hR, hZ2⟩
  refine ev_of_wp rfl rfl rfl ?_
  refine wp_go (f' := (1, [.ref 1, .retAddr 0, .retAddr 0], [.ref 1], MW A B F sw, 0, 0)) 1 rfl ?_
  refine wp_call rfl rfl rfl (ev_up hev (by decide)) ?_
  exact lq_gPieces (A := (upA (upA (upA A 4 r4) 5 r5) 6 r6)) (F := upF F 3 (F 2)) hC hR 
theorem in_le {nb : Nat → Nat} : ∀ s, s < 1024 → inN nb s ≤ 10 * s := by
  refine wh_ind (P := fun s => s < 1024 → inN nb s ≤ 10 * s) (fun s => s) (fun s ih hs => ?_)
  by_cases h0 : s = 0
  · subst h0; unfold inN; rw [lowN_0]; omega
  · have h1 : s &&& (s - 1) ≤ s - 1 := Nat.and_le_right
    have h2 := ih (s &&& (s - 1)) (by omega) (by omega)
    have h3 := pop_le (s := nb (low s) &&& (s &&& (s - 1))) (and_lt_r (by omega))
    rw [in_s hs h0]
    omega
theorem ev_fHole (hC : CI A F n nb) (hR : RI A n nb) {s : Nat} (hs : s < 2 ^ n) : mv_Ev xs Ls 2 26 [.ref 23, .int (nI s)] (MW A B F sw) (some (.int (bI (chlN n nb s))), MW A B F sw, 0, 0) := by
  refine ev_of_wp rfl rfl rfl ?_
  have hn := hC.1
  have hp := pow10 hn
  have hp1 : 1 ≤ 2 ^ n := Nat.one_le_two_pow
  have hal := all_lt hn
  have hin := in_le (nb := nb) s (by omega)
  refine wp_go (f' := (1, [.ref 23, .int (nI s), .retAddr 0, .retAddr 0], [.int (nI s)], MW A B F sw, 0, 0)) 1 rfl ?_
  refine wp_call rfl rfl rfl (ev_up (ev_bitCount (s := s) (by omega) _) (by decide)) ?_
  refine wp_eq (f' := (4, [.ref 23, .int (nI s), .retAddr 0, .retAddr 0], [.int (nI (pop s))], MW A B F sw, 0, 0)) rfl ?_
  have hpp := pop_le (s := s) (by omega)
  refine wp_go (f' := ((if (nI (pop s)) < (nI 4) then 34 else 10), [.ref 23, .int (nI s), .int (nI (pop s)), .retAddr 0], [], MW A B F sw, 0, 0)) 4 rfl ?_
  refine wp_ite (fun h1 => ?_) (fun h1 => ?_)
  · have h1 : pop s < 4 := (nI_ltI (a := pop s) (b := 4) (by omega) (by omega)).mp h1
    refine wp_go (f' := (35, [.ref 23, .int (nI s), .int (nI (pop s)), .retAddr 0], [.int (nI 0)], MW A B F sw, 0, 0)) 1 rfl ?_
    rw [show chlN n nb s = false by unfold chlN; simp [show ¬ 4 ≤ pop s by omega]]
    exact wp_zret rfl (by first | exact Or.inl rfl | exact Or.inr rfl)
  · have h1 : ¬ (pop s < 4) := fun h9 => h1 ((nI_ltI (a := pop s) (b := 4) (by omega) (by omega)).mpr h9)
    refine wp_go (f' := (18, [.ref 23, .int (nI s), .int (nI (pop s)), .retAddr 0], [.int (nI s), .ref 5], MW A B F sw, 0, 0)) 4 rfl ?_
    refine wp_iald rfl rfl (by omega) (by decide) ?_
    rw [(hR s (by omega)).2.1]
    refine wp_go (f' := ((if ¬ (nI (inN nb s)) = (nI (pop s)) then 34 else 23), [.ref 23, .int (nI s), .int (nI (pop s)), .retAddr 0], [], MW A B F sw, 0, 0)) 2 rfl ?_
    refine wp_ite (fun h2 => ?_) (fun h2 => ?_)
    · have h2 : ¬ (inN nb s = pop s) := fun h9 => h2 ((nI_eq (a := inN nb s) (b := pop s) (by omega) (by omega)).mpr h9)
      refine wp_go (f' := (35, [.ref 23, .int (nI s), .int (nI (pop s)), .retAddr 0], [.int (nI 0)], MW A B F sw, 0, 0)) 1 rfl ?_
      rw [show chlN n nb s = false by unfold chlN; simp [h2]]
      exact wp_zret rfl (by first | exact Or.inl rfl | exact Or.inr rfl)
    · have h2 := Classical.not_not.mp h2; have h2 : inN nb s = pop s := (nI_eq (a := inN nb s) (b := pop s) (by omega) (by omega)).mp h2
      refine wp_go (f' := (28, [.ref 23, .int (nI s), .int (nI (pop s)), .retAddr 0], [.int (nI s), .ref 1], MW A B F sw, 0, 0)) 3 rfl ?_
      refine wp_call rfl rfl rfl (ev_up (ev_gHangs hC hR (s := s) (by omega)) (by decide)) ?_
      refine wp_eq (f' := (31, [.ref 23, .int (nI s), .int (nI (pop s)), .retAddr 0], [.int (bI (decide (pcN nb s = s)))], MW A B F sw, 0, 0)) rfl ?_
      refine wp_go (f' := ((if ¬ (bI (decide (pcN nb s = s))) = 0 then 36 else 34), [.ref 23, .int (nI s), .int (nI (pop s)), .retAddr 0], [], MW A B F sw, 0, 0)) 1 rfl ?_
      refine wp_ite (fun h3 => ?_) (fun h3 => ?_)
      · have h3 := bI_n0 h3
        refine wp_go (f' := (38, [.ref 23, .int (nI s), .int (nI (pop s)), .int (nI 0)], [], MW A B F sw, 0, 0)) 2 rfl ?_
        refine for_ind (P := fun (k : Nat) (_ : Unit) => chlF n nb s k = true → mv_Wp xs Ls 1 1 false (some .boolean) mv_c26 (38, [.ref 23, .int (nI s), .int (nI (pop s)), .int (nI k)], [], MW A B F sw, 0, 0) (some (.int (bI (chlN n nb s))), MW A B F sw, 0, 0)) (f := fun _ u => u) (n := n) ?_ n () (Nat.le_refl _) ?_ rfl
        · intro k _ hk ih hv
          have hak : nb k &&& s < 1024 := and_lt_r (by omega)
          refine wp_go (f' := (46, [.ref 23, .int (nI s), .int (nI (pop s)), .int (nI k)], [.int (F 0), .int (nI k)], MW A B F sw, 0, 0)) 4 rfl ?_
          rw [hC.2.1]
          refine wp_go (f' := ((if (nI n) ≤ (nI k) then 83 else 49), [.ref 23, .int (nI s), .int (nI (pop s)), .int (nI k)], [], MW A B F sw, 0, 0)) 1 rfl ?_
          refine wp_ite (fun h9 => absurd h9 (nI_ge hk (by omega))) (fun _ => ?_)
          refine wp_go (f' := (54, [.ref 23, .int (nI s), .int (nI (pop s)), .int (nI k)], [.int (((nI s) >>> ((nI k) &&& 31)) &&& (nI 1))], MW A B F sw, 0, 0)) 5 rfl ?_
          rw [bx_bit (by omega) (by omega)]
          refine wp_go (f' := ((if (bI (s.testBit k)) = 0 then 77 else 57), [.ref 23, .int (nI s), .int (nI (pop s)), .int (nI k)], [], MW A B F sw, 0, 0)) 1 rfl ?_
          refine wp_ite (fun h1 => ?_) (fun h1 => ?_)
          · have h1 := bI_0.mp h1
            refine wp_go (f' := (80, [.ref 23, .int (nI s), .int (nI (pop s)), .int ((nI k) + 1)], [], MW A B F sw, 0, 0)) 1 rfl ?_
            rw [nI_1]
            refine wp_go (f' := (38, [.ref 23, .int (nI s), .int (nI (pop s)), .int (nI (k + 1))], [], MW A B F sw, 0, 0)) 1 rfl ?_
            exact ih (by show (chlF n nb s k && _) = true; rw [hv]; simp [h1])
          · have h1 := bI_n0 h1
            refine wp_go (f' := (65, [.ref 23, .int (nI s), .int (nI (pop s)), .int (nI k)], [.int (nI k), .ref 2], MW A B F sw, 0, 0)) 4 rfl ?_
            refine wp_iald rfl rfl (by omega) (by decide) ?_
            rw [hC.2.2.1 k (by omega)]
            have hnb := hC.2.2.2 k (by omega)
            refine wp_go (f' := (68, [.ref 23, .int (nI s), .int (nI (pop s)), .int (nI k)], [.int ((nI (nb k)) &&& (nI s))], MW A B F sw, 0, 0)) 2 rfl ?_
            rw [bx_and]
            refine wp_call rfl rfl rfl (ev_up (ev_bitCount (s := (nb k) &&& s) (by omega) _) (by decide)) ?_
            refine wp_eq (f' := (71, [.ref 23, .int (nI s), .int (nI (pop s)), .int (nI k)], [.int (nI (pop ((nb k) &&& s)))], MW A B F sw, 0, 0)) rfl ?_
            have hpp := pop_le (s := (nb k) &&& s) (by omega)
            refine wp_go (f' := ((if (nI (pop ((nb k) &&& s))) = (nI 2) then 77 else 75), [.ref 23, .int (nI s), .int (nI (pop s)), .int (nI k)], [], MW A B F sw, 0, 0)) 2 rfl ?_
            refine wp_ite (fun h2 => ?_) (fun h2 => ?_)
            · have h2 : pop ((nb k) &&& s) = 2 := (nI_eq (a := pop ((nb k) &&& s)) (b := 2) (by omega) (by omega)).mp h2
              refine wp_go (f' := (80, [.ref 23, .int (nI s), .int (nI (pop s)), .int ((nI k) + 1)], [], MW A B F sw, 0, 0)) 1 rfl ?_
              rw [nI_1]
              refine wp_go (f' := (38, [.ref 23, .int (nI s), .int (nI (pop s)), .int (nI (k + 1))], [], MW A B F sw, 0, 0)) 1 rfl ?_
              exact ih (by show (chlF n nb s k && _) = true; rw [hv]; simp [h1, h2])
            · have h2 : ¬ (pop ((nb k) &&& s) = 2) := fun h9 => h2 ((nI_eq (a := pop ((nb k) &&& s)) (b := 2) (by omega) (by omega)).mpr h9)
              refine wp_go (f' := (76, [.ref 23, .int (nI s), .int (nI (pop s)), .int (nI k)], [.int (nI 0)], MW A B F sw, 0, 0)) 1 rfl ?_
              rw [show chlN n nb s = false by unfold chlN; rw [chlF_f (n := n) (k := k) (by simp [h1, h2]) n hk]; simp]
              exact wp_zret rfl (by first | exact Or.inl rfl | exact Or.inr rfl)
        · intro hv
          refine wp_go (f' := (46, [.ref 23, .int (nI s), .int (nI (pop s)), .int (nI n)], [.int (F 0), .int (nI n)], MW A B F sw, 0, 0)) 4 rfl ?_
          rw [hC.2.1]
          refine wp_go (f' := ((if (nI n) ≤ (nI n) then 83 else 49), [.ref 23, .int (nI s), .int (nI (pop s)), .int (nI n)], [], MW A B F sw, 0, 0)) 1 rfl ?_
          refine wp_ite (fun _ => ?_) (fun h9 => absurd (nI_le (Nat.le_refl _) (by omega)) h9)
          refine wp_go (f' := (84, [.ref 23, .int (nI s), .int (nI (pop s)), .int (nI n)], [.int (nI 1)], MW A B F sw, 0, 0)) 1 rfl ?_
          rw [show chlN n nb s = true by unfold chlN; rw [hv, decide_eq_true (show 4 ≤ pop s by omega), decide_eq_true (show inN nb s = pop s from h2), h3]; rfl]
          exact wp_zret rfl (by first | exact Or.inl rfl | exact Or.inr rfl)
      · have h3 := Classical.not_not.mp h3; have h3 := bI_0.mp h3
        refine wp_go (f' := (35, [.ref 23, .int (nI s), .int (nI (pop s)), .retAddr 0], [.int (nI 0)], MW A B F sw, 0, 0)) 1 rfl ?_
        rw [show chlN n nb s = false by unfold chlN; simp [h3]]
        exact wp_zret rfl (by first | exact Or.inl rfl | exact Or.inr rfl)
theorem lq_fHoles (hC : CI A F n nb) (hR : RI A n nb)  : mv_Wp xs Ls 3 1 false (some .int) mv_c25 (7, [.ref 23, .retAddr 0, .retAddr 0, .retAddr 0], [], MW A B F sw, 0, 0) (some (.int (nI (cholesN n nb))), MW A B F sw, 0, 0) := by
  have hn := hC.1
  have hp := pow10 hn
  have hp1 : 1 ≤ 2 ^ n := Nat.one_le_two_pow
  have hal := all_lt hn
  refine wp_go (f' := (13, [.ref 23, .int (nI 0), .retAddr 0, .retAddr 0], [.ref 1], MW A B F sw, 0, 0)) 4 rfl ?_
  refine wp_call rfl rfl rfl (ev_up (ev_gAll hC) (by decide)) ?_
  refine wp_eq (f' := (16, [.ref 23, .int (nI 0), .retAddr 0, .retAddr 0], [.int (nI (2 ^ n - 1))], MW A B F sw, 0, 0)) rfl ?_
  refine wp_go (f' := (19, [.ref 23, .int (nI 0), .int (nI (2 ^ n - 1)), .int (nI 0)], [], MW A B F sw, 0, 0)) 3 rfl ?_
  refine for_ind (P := fun (k : Nat) (m : Nat) => mv_Wp xs Ls 3 1 false (some .int) mv_c25 (19, [.ref 23, .int (nI m), .int (nI (2 ^ n - 1)), .int (nI k)], [], MW A B F sw, 0, 0) (some (.int (nI (cholesN n nb))), MW A B F sw, 0, 0)) (f := fun k m => if chlN n nb k then m + 1 else m) (n := (2 ^ n)) ?_ (2 ^ n) 0 (Nat.le_refl _) ?_  
  · intro k m hk ih  
    refine wp_go (f' := ((if (nI (2 ^ n - 1)) < (nI k) then 41 else 24), [.ref 23, .int (nI m), .int (nI (2 ^ n - 1)), .int (nI k)], [], MW A B F sw, 0, 0)) 3 rfl ?_
    refine wp_ite (fun h9 => absurd h9 (nI_nlt (by omega) (by omega))) (fun _ => ?_)
    refine wp_go (f' := (26, [.ref 23, .int (nI m), .int (nI (2 ^ n - 1)), .int (nI k)], [.int (nI k), .ref 23], MW A B F sw, 0, 0)) 2 rfl ?_
    refine wp_call rfl rfl rfl (ev_up (ev_fHole hC hR (s := k) (by omega)) (by decide)) ?_
    refine wp_eq (f' := (29, [.ref 23, .int (nI m), .int (nI (2 ^ n - 1)), .int (nI k)], [.int (bI (chlN n nb k))], MW A B F sw, 0, 0)) rfl ?_
    refine wp_go (f' := ((if (bI (chlN n nb k)) = 0 then 35 else 32), [.ref 23, .int (nI m), .int (nI (2 ^ n - 1)), .int (nI k)], [], MW A B F sw, 0, 0)) 1 rfl ?_
    refine wp_ite (fun h1 => ?_) (fun h1 => ?_)
    · have h1 := bI_0.mp h1
      refine wp_go (f' := (38, [.ref 23, .int (nI m), .int (nI (2 ^ n - 1)), .int ((nI k) + 1)], [], MW A B F sw, 0, 0)) 1 rfl ?_
      rw [nI_1]
      refine wp_go (f' := (19, [.ref 23, .int (nI m), .int (nI (2 ^ n - 1)), .int (nI (k + 1))], [], MW A B F sw, 0, 0)) 1 rfl ?_
      refine wp_eq ?_ (ih  )
      simp [h1, bIT, bIF, nI1, nI0]
    · have h1 := bI_n0 h1
      refine wp_go (f' := (35, [.ref 23, .int ((nI m) + 1), .int (nI (2 ^ n - 1)), .int (nI k)], [], MW A B F sw, 0, 0)) 1 rfl ?_
      rw [nI_1]
      refine wp_go (f' := (38, [.ref 23, .int (nI (m + 1)), .int (nI (2 ^ n - 1)), .int ((nI k) + 1)], [], MW A B F sw, 0, 0)) 1 rfl ?_
      rw [nI_1]
      refine wp_go (f' := (19, [.ref 23, .int (nI (m + 1)), .int (nI (2 ^ n - 1)), .int (nI (k + 1))], [], MW A B F sw, 0, 0)) 1 rfl ?_
      refine wp_eq ?_ (ih  )
      simp [h1, bIT, bIF, nI1, nI0]
  · skip
    refine wp_go (f' := ((if (nI (2 ^ n - 1)) < (nI (2 ^ n)) then 41 else 24), [.ref 23, .int (nI (cholesN n nb)), .int (nI (2 ^ n - 1)), .int (nI (2 ^ n))], [], MW A B F sw, 0, 0)) 3 rfl ?_
    refine wp_ite (fun _ => ?_) (fun h9 => absurd (nI_lt (by omega) (by omega)) h9)
    refine wp_go (f' := (42, [.ref 23, .int (nI (cholesN n nb)), .int (nI (2 ^ n - 1)), .int (nI (2 ^ n))], [.int (nI (cholesN n nb))], MW A B F sw, 0, 0)) 1 rfl ?_
    exact wp_iret rfl
theorem ev_fHoles (hC : CI A F n nb) (hZ : CZ A) (hco : F 3 = F 2 → RI A n nb)  : ∃ r4 r5 r6 : Nat → Int32, mv_Ev xs Ls 4 25 [.ref 23] (MW A B F sw) (some (.int (nI (cholesN n nb))), MW (upA (upA (upA A 4 r4) 5 r5) 6 r6) B (upF F 3 (F 2)) sw, 0, 0) ∧ RI (upA (upA (upA A 4 r4) 5 r5) 6 r6) n nb ∧ CZ (upA (upA (upA A 4 r4) 5 r5) 6 r6) := by
  obtain ⟨r4, r5, r6, hev, hR, hZ2⟩ := ev_rows_any (xs := xs) (Ls := Ls) (B := B) (sw := sw) hC hZ hco
  refine ⟨r4, r5, r6, ?_, hR, hZ2⟩
  refine ev_of_wp rfl rfl rfl ?_
  refine wp_go (f' := (4, [.ref 23, .retAddr 0, .retAddr 0, .retAddr 0], [.ref 1], MW A B F sw, 0, 0)) 2 rfl ?_
  refine wp_call rfl rfl rfl (ev_up hev (by decide)) ?_
  exact lq_fHoles (A := (upA (upA (upA A 4 r4) 5 r5) 6 r6)) (F := upF F 3 (F 2)) hC hR 
theorem lq_fShort (hC : CI A F n nb) (hR : RI A n nb)  : mv_Wp xs Ls 3 1 false (some .int) mv_c28 (7, [.ref 23, .retAddr 0, .retAddr 0, .retAddr 0], [], MW A B F sw, 0, 0) (some (.int (cshortN n nb)), MW A B F sw, 0, 0) := by
  have hn := hC.1
  have hp := pow10 hn
  have hp1 : 1 ≤ 2 ^ n := Nat.one_le_two_pow
  have hal := all_lt hn
  refine wp_go (f' := (13, [.ref 23, .int (-1), .retAddr 0, .retAddr 0], [.ref 1], MW A B F sw, 0, 0)) 4 rfl ?_
  refine wp_call rfl rfl rfl (ev_up (ev_gAll hC) (by decide)) ?_
  refine wp_eq (f' := (16, [.ref 23, .int (-1), .retAddr 0, .retAddr 0], [.int (nI (2 ^ n - 1))], MW A B F sw, 0, 0)) rfl ?_
  refine wp_go (f' := (19, [.ref 23, .int (-1), .int (nI (2 ^ n - 1)), .int (nI 0)], [], MW A B F sw, 0, 0)) 3 rfl ?_
  refine for_ind (P := fun (k : Nat) (m : Int32) => mv_Wp xs Ls 3 1 false (some .int) mv_c28 (19, [.ref 23, .int m, .int (nI (2 ^ n - 1)), .int (nI k)], [], MW A B F sw, 0, 0) (some (.int (cshortN n nb)), MW A B F sw, 0, 0)) (f := fun k (m : Int32) => if chlN n nb k = true ∧ (m = -1 ∨ nI (pop k) < m) then nI (pop k) else m) (n := (2 ^ n)) ?_ (2 ^ n) (-1) (Nat.le_refl _) ?_  
  · intro k m hk ih  
    refine wp_go (f' := ((if (nI (2 ^ n - 1)) < (nI k) then 56 else 24), [.ref 23, .int m, .int (nI (2 ^ n - 1)), .int (nI k)], [], MW A B F sw, 0, 0)) 3 rfl ?_
    refine wp_ite (fun h9 => absurd h9 (nI_nlt (by omega) (by omega))) (fun _ => ?_)
    refine wp_go (f' := (26, [.ref 23, .int m, .int (nI (2 ^ n - 1)), .int (nI k)], [.int (nI k), .ref 23], MW A B F sw, 0, 0)) 2 rfl ?_
    refine wp_call rfl rfl rfl (ev_up (ev_fHole hC hR (s := k) (by omega)) (by decide)) ?_
    refine wp_eq (f' := (29, [.ref 23, .int m, .int (nI (2 ^ n - 1)), .int (nI k)], [.int (bI (chlN n nb k))], MW A B F sw, 0, 0)) rfl ?_
    refine wp_go (f' := ((if (bI (chlN n nb k)) = 0 then 50 else 32), [.ref 23, .int m, .int (nI (2 ^ n - 1)), .int (nI k)], [], MW A B F sw, 0, 0)) 1 rfl ?_
    refine wp_ite (fun h1 => ?_) (fun h1 => ?_)
    · have h1 := bI_0.mp h1
      refine wp_go (f' := (53, [.ref 23, .int m, .int (nI (2 ^ n - 1)), .int ((nI k) + 1)], [], MW A B F sw, 0, 0)) 1 rfl ?_
      rw [nI_1]
      refine wp_go (f' := (19, [.ref 23, .int m, .int (nI (2 ^ n - 1)), .int (nI (k + 1))], [], MW A B F sw, 0, 0)) 1 rfl ?_
      refine wp_eq ?_ ih
      simp [h1]
    · have h1 := bI_n0 h1
      refine wp_go (f' := ((if m = (-1) then 45 else 37), [.ref 23, .int m, .int (nI (2 ^ n - 1)), .int (nI k)], [], MW A B F sw, 0, 0)) 3 rfl ?_
      refine wp_ite (fun h2 => ?_) (fun h2 => ?_)
      · skip
        refine wp_go (f' := (46, [.ref 23, .int m, .int (nI (2 ^ n - 1)), .int (nI k)], [.int (nI k)], MW A B F sw, 0, 0)) 1 rfl ?_
        refine wp_call rfl rfl rfl (ev_up (ev_bitCount (s := k) (by omega) _) (by decide)) ?_
        refine wp_eq (f' := (49, [.ref 23, .int m, .int (nI (2 ^ n - 1)), .int (nI k)], [.int (nI (pop k))], MW A B F sw, 0, 0)) rfl ?_
        have hpp := pop_le (s := k) (by omega)
        refine wp_go (f' := (53, [.ref 23, .int (nI (pop k)), .int (nI (2 ^ n - 1)), .int ((nI k) + 1)], [], MW A B F sw, 0, 0)) 2 rfl ?_
        rw [nI_1]
        refine wp_go (f' := (19, [.ref 23, .int (nI (pop k)), .int (nI (2 ^ n - 1)), .int (nI (k + 1))], [], MW A B F sw, 0, 0)) 1 rfl ?_
        refine wp_eq ?_ ih
        simp [h1, h2]
      · skip
        refine wp_go (f' := (38, [.ref 23, .int m, .int (nI (2 ^ n - 1)), .int (nI k)], [.int (nI k)], MW A B F sw, 0, 0)) 1 rfl ?_
        refine wp_call rfl rfl rfl (ev_up (ev_bitCount (s := k) (by omega) _) (by decide)) ?_
        refine wp_eq (f' := (41, [.ref 23, .int m, .int (nI (2 ^ n - 1)), .int (nI k)], [.int (nI (pop k))], MW A B F sw, 0, 0)) rfl ?_
        have hpp := pop_le (s := k) (by omega)
        refine wp_go (f' := ((if m ≤ (nI (pop k)) then 50 else 45), [.ref 23, .int m, .int (nI (2 ^ n - 1)), .int (nI k)], [], MW A B F sw, 0, 0)) 2 rfl ?_
        refine wp_ite (fun h3 => ?_) (fun h3 => ?_)
        · skip
          refine wp_go (f' := (53, [.ref 23, .int m, .int (nI (2 ^ n - 1)), .int ((nI k) + 1)], [], MW A B F sw, 0, 0)) 1 rfl ?_
          rw [nI_1]
          refine wp_go (f' := (19, [.ref 23, .int m, .int (nI (2 ^ n - 1)), .int (nI (k + 1))], [], MW A B F sw, 0, 0)) 1 rfl ?_
          refine wp_eq ?_ ih
          simp [h1, h2, Int32.not_lt.mpr h3]
        · skip
          refine wp_go (f' := (46, [.ref 23, .int m, .int (nI (2 ^ n - 1)), .int (nI k)], [.int (nI k)], MW A B F sw, 0, 0)) 1 rfl ?_
          refine wp_call rfl rfl rfl (ev_up (ev_bitCount (s := k) (by omega) _) (by decide)) ?_
          refine wp_eq (f' := (49, [.ref 23, .int m, .int (nI (2 ^ n - 1)), .int (nI k)], [.int (nI (pop k))], MW A B F sw, 0, 0)) rfl ?_
          have hpp := pop_le (s := k) (by omega)
          refine wp_go (f' := (53, [.ref 23, .int (nI (pop k)), .int (nI (2 ^ n - 1)), .int ((nI k) + 1)], [], MW A B F sw, 0, 0)) 2 rfl ?_
          rw [nI_1]
          refine wp_go (f' := (19, [.ref 23, .int (nI (pop k)), .int (nI (2 ^ n - 1)), .int (nI (k + 1))], [], MW A B F sw, 0, 0)) 1 rfl ?_
          refine wp_eq ?_ ih
          simp [h1, h2, Int32.not_le.mp h3]
  · skip
    refine wp_go (f' := ((if (nI (2 ^ n - 1)) < (nI (2 ^ n)) then 56 else 24), [.ref 23, .int (cshortN n nb), .int (nI (2 ^ n - 1)), .int (nI (2 ^ n))], [], MW A B F sw, 0, 0)) 3 rfl ?_
    refine wp_ite (fun _ => ?_) (fun h9 => absurd (nI_lt (by omega) (by omega)) h9)
    refine wp_go (f' := (57, [.ref 23, .int (cshortN n nb), .int (nI (2 ^ n - 1)), .int (nI (2 ^ n))], [.int (cshortN n nb)], MW A B F sw, 0, 0)) 1 rfl ?_
    exact wp_iret rfl
theorem ev_fShort (hC : CI A F n nb) (hZ : CZ A) (hco : F 3 = F 2 → RI A n nb)  : ∃ r4 r5 r6 : Nat → Int32, mv_Ev xs Ls 4 28 [.ref 23] (MW A B F sw) (some (.int (cshortN n nb)), MW (upA (upA (upA A 4 r4) 5 r5) 6 r6) B (upF F 3 (F 2)) sw, 0, 0) ∧ RI (upA (upA (upA A 4 r4) 5 r5) 6 r6) n nb ∧ CZ (upA (upA (upA A 4 r4) 5 r5) 6 r6) := by
  obtain ⟨r4, r5, r6, hev, hR, hZ2⟩ := ev_rows_any (xs := xs) (Ls := Ls) (B := B) (sw := sw) hC hZ hco
  refine ⟨r4, r5, r6, ?_, hR, hZ2⟩
  refine ev_of_wp rfl rfl rfl ?_
  refine wp_go (f' := (4, [.ref 23, .retAddr 0, .retAddr 0, .retAddr 0], [.ref 1], MW A B F sw, 0, 0)) 2 rfl ?_
  refine wp_call rfl rfl rfl (ev_up hev (by decide)) ?_
  exact lq_fShort (A := (upA (upA (upA A 4 r4) 5 r5) 6 r6)) (F := upF F 3 (F 2)) hC hR 
theorem ev_fLoose (hC : CI A F n nb) {s : Nat} (hs : s < 1024) : mv_Ev xs Ls 2 24 [.ref 23, .int (nI s)] (MW A B F sw) (some (.int (nI (looseV n nb s))), MW A B F sw, 0, 0) := by
  refine ev_of_wp rfl rfl rfl ?_
  have hn := hC.1
  have hp := pow10 hn
  have hp1 : 1 ≤ 2 ^ n := Nat.one_le_two_pow
  have hal := all_lt hn
  refine wp_go (f' := (9, [.ref 23, .int (nI s), .int (nI 0), .int (nI 1000), .int (nI 0), .retAddr 0], [], MW A B F sw, 0, 0)) 6 rfl ?_
  refine for_ind (P := fun (k : Nat) (q : Nat × Nat) => q.2 ≤ 1000 → ∀ (d5 : Value), mv_Wp xs Ls 1 1 false (some .int) mv_c24 (9, [.ref 23, .int (nI s), .int (nI q.1), .int (nI q.2), .int (nI k), d5], [], MW A B F sw, 0, 0) (some (.int (nI (looseV n nb s))), MW A B F sw, 0, 0)) (f := fun k (q : Nat × Nat) => if s.testBit k = true ∧ pop (nb k &&& s) < q.2 then (k, pop (nb k &&& s)) else q) (n := n) ?_ n (0, 1000) (Nat.le_refl _) ?_ ?_ (.retAddr 0)
  · intro k q hk ih hv d5
    have hak : nb k &&& s < 1024 := and_lt_r (by omega)
    refine wp_go (f' := (18, [.ref 23, .int (nI s), .int (nI q.1), .int (nI q.2), .int (nI k), d5], [.int (F 0), .int (nI k)], MW A B F sw, 0, 0)) 4 rfl ?_
    rw [hC.2.1]
    refine wp_go (f' := ((if (nI n) ≤ (nI k) then 65 else 21), [.ref 23, .int (nI s), .int (nI q.1), .int (nI q.2), .int (nI k), d5], [], MW A B F sw, 0, 0)) 1 rfl ?_
    refine wp_ite (fun h9 => absurd h9 (nI_ge hk (by omega))) (fun _ => ?_)
    refine wp_go (f' := (30, [.ref 23, .int (nI s), .int (nI q.1), .int (nI q.2), .int (nI k), d5], [.int (nI k), .ref 2], MW A B F sw, 0, 0)) 4 rfl ?_
    refine wp_iald rfl rfl (by omega) (by decide) ?_
    rw [hC.2.2.1 k (by omega)]
    have hnb := hC.2.2.2 k (by omega)
    refine wp_go (f' := (33, [.ref 23, .int (nI s), .int (nI q.1), .int (nI q.2), .int (nI k), d5], [.int ((nI (nb k)) &&& (nI s))], MW A B F sw, 0, 0)) 2 rfl ?_
    rw [bx_and]
    refine wp_call rfl rfl rfl (ev_up (ev_bitCount (s := (nb k) &&& s) (by omega) _) (by decide)) ?_
    refine wp_eq (f' := (36, [.ref 23, .int (nI s), .int (nI q.1), .int (nI q.2), .int (nI k), d5], [.int (nI (pop ((nb k) &&& s)))], MW A B F sw, 0, 0)) rfl ?_
    have hpp := pop_le (s := (nb k) &&& s) (by omega)
    refine wp_go (f' := (44, [.ref 23, .int (nI s), .int (nI q.1), .int (nI q.2), .int (nI k), .int (nI (pop ((nb k) &&& s)))], [.int (((nI s) >>> ((nI k) &&& 31)) &&& (nI 1))], MW A B F sw, 0, 0)) 6 rfl ?_
    rw [bx_bit (by omega) (by omega)]
    refine wp_go (f' := ((if (bI (s.testBit k)) = 0 then 59 else 47), [.ref 23, .int (nI s), .int (nI q.1), .int (nI q.2), .int (nI k), .int (nI (pop ((nb k) &&& s)))], [], MW A B F sw, 0, 0)) 1 rfl ?_
    refine wp_ite (fun h1 => ?_) (fun h1 => ?_)
    · have h1 := bI_0.mp h1
      refine wp_go (f' := (62, [.ref 23, .int (nI s), .int (nI q.1), .int (nI q.2), .int ((nI k) + 1), .int (nI (pop ((nb k) &&& s)))], [], MW A B F sw, 0, 0)) 1 rfl ?_
      rw [nI_1]
      refine wp_go (f' := (9, [.ref 23, .int (nI s), .int (nI q.1), .int (nI q.2), .int (nI (k + 1)), .int (nI (pop ((nb k) &&& s)))], [], MW A B F sw, 0, 0)) 1 rfl ?_
      have e9 : (if s.testBit k = true ∧ pop (nb k &&& s) < q.2 then (k, pop (nb k &&& s)) else q) = (q.1, q.2) := by simp [h1]
      have h8 := ih (by rw [e9]; show q.2 ≤ 1000; omega) (.int (nI (pop ((nb k) &&& s))))
      rw [e9] at h8
      exact h8
    · have h1 := bI_n0 h1
      refine wp_go (f' := ((if (nI q.2) ≤ (nI (pop ((nb k) &&& s))) then 59 else 53), [.ref 23, .int (nI s), .int (nI q.1), .int (nI q.2), .int (nI k), .int (nI (pop ((nb k) &&& s)))], [], MW A B F sw, 0, 0)) 3 rfl ?_
      refine wp_ite (fun h2 => ?_) (fun h2 => ?_)
      · have h2 : q.2 ≤ pop ((nb k) &&& s) := (nI_leI (a := q.2) (b := pop ((nb k) &&& s)) (by omega) (by omega)).mp h2
        refine wp_go (f' := (62, [.ref 23, .int (nI s), .int (nI q.1), .int (nI q.2), .int ((nI k) + 1), .int (nI (pop ((nb k) &&& s)))], [], MW A B F sw, 0, 0)) 1 rfl ?_
        rw [nI_1]
        refine wp_go (f' := (9, [.ref 23, .int (nI s), .int (nI q.1), .int (nI q.2), .int (nI (k + 1)), .int (nI (pop ((nb k) &&& s)))], [], MW A B F sw, 0, 0)) 1 rfl ?_
        have e9 : (if s.testBit k = true ∧ pop (nb k &&& s) < q.2 then (k, pop (nb k &&& s)) else q) = (q.1, q.2) := by simp [h1, show ¬ pop (nb k &&& s) < q.2 by omega]
        have h8 := ih (by rw [e9]; show q.2 ≤ 1000; omega) (.int (nI (pop ((nb k) &&& s))))
        rw [e9] at h8
        exact h8
      · have h2 : ¬ (q.2 ≤ pop ((nb k) &&& s)) := fun h9 => h2 ((nI_leI (a := q.2) (b := pop ((nb k) &&& s)) (by omega) (by omega)).mpr h9)
        refine wp_go (f' := (62, [.ref 23, .int (nI s), .int (nI k), .int (nI (pop ((nb k) &&& s))), .int ((nI k) + 1), .int (nI (pop ((nb k) &&& s)))], [], MW A B F sw, 0, 0)) 5 rfl ?_
        rw [nI_1]
        refine wp_go (f' := (9, [.ref 23, .int (nI s), .int (nI k), .int (nI (pop ((nb k) &&& s))), .int (nI (k + 1)), .int (nI (pop ((nb k) &&& s)))], [], MW A B F sw, 0, 0)) 1 rfl ?_
        have e9 : (if s.testBit k = true ∧ pop (nb k &&& s) < q.2 then (k, pop (nb k &&& s)) else q) = (k, pop ((nb k) &&& s)) := by simp [h1, h2]
        have h8 := ih (by rw [e9]; show pop ((nb k) &&& s) ≤ 1000; omega) (.int (nI (pop ((nb k) &&& s))))
        rw [e9] at h8
        exact h8
  · intro hv d5
    refine wp_go (f' := (18, [.ref 23, .int (nI s), .int (nI (looseV n nb s)), .int (nI (looseN n nb s).2), .int (nI n), d5], [.int (F 0), .int (nI n)], MW A B F sw, 0, 0)) 4 rfl ?_
    rw [hC.2.1]
    refine wp_go (f' := ((if (nI n) ≤ (nI n) then 65 else 21), [.ref 23, .int (nI s), .int (nI (looseV n nb s)), .int (nI (looseN n nb s).2), .int (nI n), d5], [], MW A B F sw, 0, 0)) 1 rfl ?_
    refine wp_ite (fun _ => ?_) (fun h9 => absurd (nI_le (Nat.le_refl _) (by omega)) h9)
    refine wp_go (f' := (66, [.ref 23, .int (nI s), .int (nI (looseV n nb s)), .int (nI (looseN n nb s).2), .int (nI n), d5], [.int (nI (looseV n nb s))], MW A B F sw, 0, 0)) 1 rfl ?_
    exact wp_iret rfl
  · exact Nat.le_refl _
theorem ev_fCore (hC : CI A F n nb) : mv_Ev xs Ls 4 23 [.ref 23] (MW A B F sw) (some (.int (nI (ccoreN n nb n).2)), MW A B F sw, 0, 0) := by
  refine ev_of_wp rfl rfl rfl ?_
  have hn := hC.1
  have hp := pow10 hn
  have hp1 : 1 ≤ 2 ^ n := Nat.one_le_two_pow
  have hal := all_lt hn
  refine wp_go (f' := (4, [.ref 23, .retAddr 0, .retAddr 0, .retAddr 0, .retAddr 0], [.ref 1], MW A B F sw, 0, 0)) 2 rfl ?_
  refine wp_call rfl rfl rfl (ev_up (ev_gAll hC) (by decide)) ?_
  refine wp_eq (f' := (7, [.ref 23, .retAddr 0, .retAddr 0, .retAddr 0, .retAddr 0], [.int (nI (2 ^ n - 1))], MW A B F sw, 0, 0)) rfl ?_
  refine wp_go (f' := (12, [.ref 23, .int (nI (2 ^ n - 1)), .int (nI 0), .int (nI 0), .retAddr 0], [], MW A B F sw, 0, 0)) 5 rfl ?_
  refine for_ind (P := fun (k : Nat) (q : Nat × Nat) => q.1 < 1024 ∧ q.2 ≤ 10 → ∀ (d4 : Value), mv_Wp xs Ls 3 1 false (some .int) mv_c23 (12, [.ref 23, .int (nI q.1), .int (nI q.2), .int (nI k), d4], [], MW A B F sw, 0, 0) (some (.int (nI (ccoreN n nb n).2)), MW A B F sw, 0, 0)) (f := fun _ (q : Nat × Nat) => (sd q.1 (2 ^ (looseV n nb q.1)), if q.2 < pop (nb (looseV n nb q.1) &&& q.1) then pop (nb (looseV n nb q.1) &&& q.1) else q.2)) (n := n) ?_ n (2 ^ n - 1, 0) (Nat.le_refl _) ?_ ?_ (.retAddr 0)
  · intro k q hk ih hv d4
    obtain ⟨hv1, hv2⟩ := hv
    have hv := And.intro hv1 hv2
    refine wp_go (f' := (20, [.ref 23, .int (nI q.1), .int (nI q.2), .int (nI k), d4], [.int (F 0), .int (nI k)], MW A B F sw, 0, 0)) 4 rfl ?_
    rw [hC.2.1]
    refine wp_go (f' := ((if (nI n) ≤ (nI k) then 65 else 23), [.ref 23, .int (nI q.1), .int (nI q.2), .int (nI k), d4], [], MW A B F sw, 0, 0)) 1 rfl ?_
    refine wp_ite (fun h9 => absurd h9 (nI_ge hk (by omega))) (fun _ => ?_)
    refine wp_go (f' := (25, [.ref 23, .int (nI q.1), .int (nI q.2), .int (nI k), d4], [.int (nI q.1), .ref 23], MW A B F sw, 0, 0)) 2 rfl ?_
    refine wp_call rfl rfl rfl (ev_up (ev_fLoose hC (s := q.1) (by omega)) (by decide)) ?_
    refine wp_eq (f' := (28, [.ref 23, .int (nI q.1), .int (nI q.2), .int (nI k), d4], [.int (nI (looseV n nb q.1))], MW A B F sw, 0, 0)) rfl ?_
    have hlo : (looseV n nb q.1) ≤ n - 1 := (loose_ok (n := n) (nb := nb) (s := q.1) (by omega) n).1
    have hak : nb (looseV n nb q.1) &&& q.1 < 1024 := and_lt_r (by omega)
    refine wp_go (f' := (40, [.ref 23, .int (nI q.1), .int (nI q.2), .int (nI k), .int (nI (looseV n nb q.1))], [.int (nI (looseV n nb q.1)), .ref 2, .int (nI q.2)], MW A B F sw, 0, 0)) 6 rfl ?_
    refine wp_iald rfl rfl (by omega) (by decide) ?_
    rw [hC.2.2.1 (looseV n nb q.1) (by omega)]
    have hnb := hC.2.2.2 (looseV n nb q.1) (by omega)
    refine wp_go (f' := (43, [.ref 23, .int (nI q.1), .int (nI q.2), .int (nI k), .int (nI (looseV n nb q.1))], [.int ((nI (nb (looseV n nb q.1))) &&& (nI q.1)), .int (nI q.2)], MW A B F sw, 0, 0)) 2 rfl ?_
    rw [bx_and]
    refine wp_call rfl rfl rfl (ev_up (ev_bitCount (s := (nb (looseV n nb q.1)) &&& q.1) (by omega) _) (by decide)) ?_
    refine wp_eq (f' := (46, [.ref 23, .int (nI q.1), .int (nI q.2), .int (nI k), .int (nI (looseV n nb q.1))], [.int (nI (pop ((nb (looseV n nb q.1)) &&& q.1))), .int (nI q.2)], MW A B F sw, 0, 0)) rfl ?_
    have hpp := pop_le (s := (nb (looseV n nb q.1)) &&& q.1) (by omega)
    refine wp_go (f' := (49, [.ref 23, .int (nI q.1), .int (nI q.2), .int (nI k), .int (nI (looseV n nb q.1))], [.int (if (nI q.2) < (nI (pop ((nb (looseV n nb q.1)) &&& q.1))) then nI (pop ((nb (looseV n nb q.1)) &&& q.1)) else nI q.2)], MW A B F sw, 0, 0)) 1 rfl ?_
    rw [nI_ite (by first | omega | (split <;> omega)) (by first | omega | (split <;> omega))]
    refine wp_go (f' := (55, [.ref 23, .int (nI q.1), .int (nI (if q.2 < pop ((nb (looseV n nb q.1)) &&& q.1) then pop ((nb (looseV n nb q.1)) &&& q.1) else q.2)), .int (nI k), .int (nI (looseV n nb q.1))], [.int ((nI 1) <<< ((nI (looseV n nb q.1)) &&& 31)), .int (nI q.1)], MW A B F sw, 0, 0)) 5 rfl ?_
    rw [bx_one (by omega)]
    refine wp_go (f' := (58, [.ref 23, .int (nI q.1), .int (nI (if q.2 < pop ((nb (looseV n nb q.1)) &&& q.1) then pop ((nb (looseV n nb q.1)) &&& q.1) else q.2)), .int (nI k), .int (nI (looseV n nb q.1))], [.int ((nI q.1) &&& ((nI (2 ^ (looseV n nb q.1))) ^^^ (-1)))], MW A B F sw, 0, 0)) 3 rfl ?_
    rw [bx_sd (by omega)]
    refine wp_go (f' := (62, [.ref 23, .int (nI (sd q.1 (2 ^ (looseV n nb q.1)))), .int (nI (if q.2 < pop ((nb (looseV n nb q.1)) &&& q.1) then pop ((nb (looseV n nb q.1)) &&& q.1) else q.2)), .int ((nI k) + 1), .int (nI (looseV n nb q.1))], [], MW A B F sw, 0, 0)) 2 rfl ?_
    rw [nI_1]
    refine wp_go (f' := (12, [.ref 23, .int (nI (sd q.1 (2 ^ (looseV n nb q.1)))), .int (nI (if q.2 < pop ((nb (looseV n nb q.1)) &&& q.1) then pop ((nb (looseV n nb q.1)) &&& q.1) else q.2)), .int (nI (k + 1)), .int (nI (looseV n nb q.1))], [], MW A B F sw, 0, 0)) 1 rfl ?_
    exact ih ⟨sd_lt hv.1, by show (if _ then _ else _) ≤ 10; split <;> omega⟩ (.int (nI (looseV n nb q.1)))
  · intro hv d4
    refine wp_go (f' := (20, [.ref 23, .int (nI (ccoreN n nb n).1), .int (nI (ccoreN n nb n).2), .int (nI n), d4], [.int (F 0), .int (nI n)], MW A B F sw, 0, 0)) 4 rfl ?_
    rw [hC.2.1]
    refine wp_go (f' := ((if (nI n) ≤ (nI n) then 65 else 23), [.ref 23, .int (nI (ccoreN n nb n).1), .int (nI (ccoreN n nb n).2), .int (nI n), d4], [], MW A B F sw, 0, 0)) 1 rfl ?_
    refine wp_ite (fun _ => ?_) (fun h9 => absurd (nI_le (Nat.le_refl _) (by omega)) h9)
    refine wp_go (f' := (66, [.ref 23, .int (nI (ccoreN n nb n).1), .int (nI (ccoreN n nb n).2), .int (nI n), d4], [.int (nI (ccoreN n nb n).2)], MW A B F sw, 0, 0)) 1 rfl ?_
    exact wp_iret rfl
  · exact ⟨hal, Nat.zero_le _⟩
theorem ev_bCount0 (hC : CI A F n nb) : mv_Ev xs Ls 1 15 [.ref 0, .int (nI 0)] (MW A B F sw) (some (.int (nI n)), MW A B F sw, 0, 0) := by
  refine ev_of_wp rfl rfl rfl ?_
  have hn := hC.1
  have hp := pow10 hn
  have hp1 : 1 ≤ 2 ^ n := Nat.one_le_two_pow
  have hal := all_lt hn
  refine wp_go (f' := (51, [.ref 0, .int (nI 0)], [.int (F 0)], MW A B F sw, 0, 0)) 5 rfl ?_
  rw [hC.2.1]
  exact wp_iret rfl
theorem ev_bCount1 (hC : CI A F n nb) {ed : Nat} (hE : F 1 = nI ed) : mv_Ev xs Ls 1 15 [.ref 0, .int (nI 1)] (MW A B F sw) (some (.int (nI ed)), MW A B F sw, 0, 0) := by
  refine ev_of_wp rfl rfl rfl ?_
  have hn := hC.1
  have hp := pow10 hn
  have hp1 : 1 ≤ 2 ^ n := Nat.one_le_two_pow
  have hal := all_lt hn
  refine wp_go (f' := (59, [.ref 0, .int (nI 1)], [.int (F 1)], MW A B F sw, 0, 0)) 5 rfl ?_
  rw [hE]
  exact wp_iret rfl
theorem ev_bCount3 (hC : CI A F n nb) : mv_Ev xs Ls 3 15 [.ref 0, .int (nI 3)] (MW A B F sw) (some (.int (nI (degN n nb))), MW A B F sw, 0, 0) := by
  refine ev_of_wp rfl rfl rfl ?_
  have hn := hC.1
  have hp := pow10 hn
  have hp1 : 1 ≤ 2 ^ n := Nat.one_le_two_pow
  have hal := all_lt hn
  refine wp_go (f' := (72, [.ref 0, .int (nI 3)], [.ref 23], MW A B F sw, 0, 0)) 4 rfl ?_
  refine wp_call rfl rfl rfl (ev_up (ev_fMost hC) (by decide)) ?_
  refine wp_eq (f' := (75, [.ref 0, .int (nI 3)], [.int (nI (degN n nb))], MW A B F sw, 0, 0)) rfl ?_
  exact wp_iret rfl
theorem ev_bCount4 (hC : CI A F n nb) : mv_Ev xs Ls 5 15 [.ref 0, .int (nI 4)] (MW A B F sw) (some (.int (nI (ccoreN n nb n).2)), MW A B F sw, 0, 0) := by
  refine ev_of_wp rfl rfl rfl ?_
  have hn := hC.1
  have hp := pow10 hn
  have hp1 : 1 ≤ 2 ^ n := Nat.one_le_two_pow
  have hal := all_lt hn
  refine wp_go (f' := (80, [.ref 0, .int (nI 4)], [.ref 23], MW A B F sw, 0, 0)) 4 rfl ?_
  refine wp_call rfl rfl rfl (ev_up (ev_fCore hC) (by decide)) ?_
  refine wp_eq (f' := (83, [.ref 0, .int (nI 4)], [.int (nI (ccoreN n nb n).2)], MW A B F sw, 0, 0)) rfl ?_
  exact wp_iret rfl
theorem ev_bCount2 (hC : CI A F n nb) (hZ : CZ A) (hco : F 3 = F 2 → RI A n nb)  : ∃ r4 r5 r6 : Nat → Int32, mv_Ev xs Ls 5 15 [.ref 0, .int (nI 2)] (MW A B F sw) (some (.int (nI (cprN n nb))), MW (upA (upA (upA A 4 r4) 5 r5) 6 r6) B (upF F 3 (F 2)) sw, 0, 0) ∧ RI (upA (upA (upA A 4 r4) 5 r5) 6 r6) n nb ∧ CZ (upA (upA (upA A 4 r4) 5 r5) 6 r6) := by
  obtain ⟨r4, r5, r6, hev, hR, hZ2⟩ := ev_gPieces (xs := xs) (Ls := Ls) (B := B) (sw := sw) hC hZ hco 
  refine ⟨r4, r5, r6, ?_, hR, hZ2⟩
  refine ev_of_wp rfl rfl rfl ?_
  refine wp_go (f' := (64, [.ref 0, .int (nI 2)], [.ref 1], MW A B F sw, 0, 0)) 4 rfl ?_
  refine wp_call rfl rfl rfl (ev_up hev (by decide)) ?_
  exact wp_iret rfl
theorem ev_bCount5 (hC : CI A F n nb) (hZ : CZ A) (hco : F 3 = F 2 → RI A n nb)  : ∃ r4 r5 r6 : Nat → Int32, mv_Ev xs Ls 5 15 [.ref 0, .int (nI 5)] (MW A B F sw) (some (.int (nI (cholesN n nb))), MW (upA (upA (upA A 4 r4) 5 r5) 6 r6) B (upF F 3 (F 2)) sw, 0, 0) ∧ RI (upA (upA (upA A 4 r4) 5 r5) 6 r6) n nb ∧ CZ (upA (upA (upA A 4 r4) 5 r5) 6 r6) := by
  obtain ⟨r4, r5, r6, hev, hR, hZ2⟩ := ev_fHoles (xs := xs) (Ls := Ls) (B := B) (sw := sw) hC hZ hco 
  refine ⟨r4, r5, r6, ?_, hR, hZ2⟩
  refine ev_of_wp rfl rfl rfl ?_
  refine wp_go (f' := (88, [.ref 0, .int (nI 5)], [.ref 23], MW A B F sw, 0, 0)) 4 rfl ?_
  refine wp_call rfl rfl rfl (ev_up hev (by decide)) ?_
  exact wp_iret rfl
theorem ev_bCount6 (hC : CI A F n nb) (hZ : CZ A) (hco : F 3 = F 2 → RI A n nb)  : ∃ r4 r5 r6 : Nat → Int32, mv_Ev xs Ls 5 15 [.ref 0, .int (nI 6)] (MW A B F sw) (some (.int (cshortN n nb)), MW (upA (upA (upA A 4 r4) 5 r5) 6 r6) B (upF F 3 (F 2)) sw, 0, 0) ∧ RI (upA (upA (upA A 4 r4) 5 r5) 6 r6) n nb ∧ CZ (upA (upA (upA A 4 r4) 5 r5) 6 r6) := by
  obtain ⟨r4, r5, r6, hev, hR, hZ2⟩ := ev_fShort (xs := xs) (Ls := Ls) (B := B) (sw := sw) hC hZ hco 
  refine ⟨r4, r5, r6, ?_, hR, hZ2⟩
  refine ev_of_wp rfl rfl rfl ?_
  refine wp_go (f' := (96, [.ref 0, .int (nI 6)], [.ref 23], MW A B F sw, 0, 0)) 4 rfl ?_
  refine wp_call rfl rfl rfl (ev_up hev (by decide)) ?_
  exact wp_iret rfl
theorem ev_bCount_f {x : Int32} (hx : outN x 6 = true) : mv_Ev xs Ls 1 15 [.ref 0, .int x] (MW A B F sw) (some (.int (-2)), MW A B F sw, 0, 0) := by
  refine ev_of_wp rfl rfl rfl ?_
  refine wp_go (f' := (1, [.ref 0, .int x], [.int x], MW A B F sw, 0, 0)) 1 rfl ?_
  refine wp_tsOut rfl (by have h8 := out_int (m := 6) (by omega) hx; omega) rfl ?_
  refine wp_go (f' := (102, [.ref 0, .int x], [.int (-2)], MW A B F sw, 0, 0)) 1 rfl ?_
  exact wp_iret rfl
end CC
