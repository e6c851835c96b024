theorem wp_tsOut {xs : Nat → Int32} {Ls d cls : Nat} {ini : Bool} {ret : Option FieldType} {code : List (Nat × Instr × Nat)} {pc : Nat} {L st : List Value} {w : mv_W} {c k : Nat} {r : mv_R} {dflt lo hi : Int} {offs : Array Int} {len t : Nat} {x : Int32} (hg : mv_get code pc = some (.tableswitch dflt lo hi offs, len)) (h : x.toInt < lo ∨ hi < x.toInt) (ht : mv_tgt pc dflt = some t) (kk : mv_Wp xs Ls d cls ini ret code (t, L, st, w, c, k) r) : mv_Wp xs Ls d cls ini ret code (pc, L, .int x :: st, w, c, k) r := by
  refine wp_go 1 ?_ kk
  unfold mv_gos
  dsimp only
  rw [hg]
  simp only [mv_one, mv_alu, mv_loc, mv_br, if_pos h, ht]
  rfl
/-- x is none of 0 .. m -/
def outN (x : Int32) (m : Nat) : Bool := !(decide (nI 0 ≤ x) && decide (x ≤ nI m))
theorem out_int {x : Int32} {m : Nat} (hm : m < 1000) (h : outN x m = true) : x.toInt < 0 ∨ (m : Int) < x.toInt := by
  unfold outN at h
  rw [Bool.not_eq_true', Bool.and_eq_false_imp] at h
  by_cases g : x.toInt < 0
  · exact Or.inl g
  · right
    have h1 : nI 0 ≤ x := by rw [Int32.le_iff_toInt_le, nI_toInt (by omega)]; omega
    have h2 := h (by simpa using h1)
    rw [decide_eq_false_iff_not, Int32.le_iff_toInt_le, nI_toInt (by omega)] at h2
    omega
theorem out_in {x : Int32} {m : Nat} (hm : m < 1000) (h : outN x m = false) : ∃ c, c ≤ m ∧ x = nI c := by
  unfold outN at h
  rw [Bool.not_eq_false', Bool.and_eq_true, decide_eq_true_eq, decide_eq_true_eq] at h
  obtain ⟨c, hc, rfl⟩ := nI_of (x := x) (fun h9 => absurd h.1 (Int32.not_le.mpr h9))
  exact ⟨c, (nI_leI hc (by omega)).mp h.2, rfl⟩
theorem out_ne {x : Int32} {m c : Nat} (hm : m < 1000) (h : outN x m = true) (hc : c ≤ m) : ¬ x = nI c := by
  intro e
  rcases out_int hm h with g | g
  · rw [e, nI_toInt (by omega)] at g; omega
  · rw [e, nI_toInt (by omega)] at g; omega
section MM
variable {xs : Nat → Int32} {Ls : Nat} {A : Nat → Nat → Int32} {B : Nat → Nat → Int64} {F : Nat → Int32} {sw : Bool} {n : Nat} {nb : Nat → Nat}
theorem ev_separator_f (hM : MI A F n nb) {k : Int32} (hk : k < 0) : mv_Ev xs Ls 4 101 [.ref 28, .int k] (MW A B F sw) (some (.int (-1)), MW A B F sw, 0, 0) := by
  refine ev_of_wp rfl rfl rfl ?_
  have hn := hM.1
  have hp := pow10 hn
  have hp1 : 1 ≤ 2 ^ n := Nat.one_le_two_pow
  have hal := all_lt hn
  refine wp_go (f' := (6, [.ref 28, .int k, .int (nI 0), .int (nI 0)], [.ref 28, .int (nI 0)], MW A B F sw, 0, 0)) 6 rfl ?_
  refine wp_call rfl rfl rfl (ev_up (ev_all hM) (by decide)) ?_
  refine wp_eq (f' := (9, [.ref 28, .int k, .int (nI 0), .int (nI 0)], [.int (nI (2 ^ n - 1)), .int (nI 0)], MW A B F sw, 0, 0)) rfl ?_
  refine wp_go (f' := ((if (nI (2 ^ n - 1)) < (nI 0) then 40 else 12), [.ref 28, .int k, .int (nI 0), .int (nI 0)], [], MW A B F sw, 0, 0)) 1 rfl ?_
  refine wp_ite (fun h9 => absurd h9 (nI_nlt (by omega) (by omega))) (fun _ => ?_)
  refine wp_go (f' := ((if k < 0 then 40 else 16), [.ref 28, .int k, .int (nI 0), .int (nI 0)], [], MW A B F sw, 0, 0)) 2 rfl ?_
  refine wp_ite (fun _ => ?_) (fun h9 => absurd hk h9)
  refine wp_go (f' := (41, [.ref 28, .int k, .int (nI 0), .int (nI 0)], [.int (-1)], MW A B F sw, 0, 0)) 1 rfl ?_
  exact wp_iret rfl
theorem ev_clique_f (hM : MI A F n nb) {k : Int32} (hk : k < 0) : mv_Ev xs Ls 3 104 [.ref 28, .int k] (MW A B F sw) (some (.int (-1)), MW A B F sw, 0, 0) := by
  refine ev_of_wp rfl rfl rfl ?_
  have hn := hM.1
  have hp := pow10 hn
  have hp1 : 1 ≤ 2 ^ n := Nat.one_le_two_pow
  have hal := all_lt hn
  refine wp_go (f' := (6, [.ref 28, .int k, .int (nI 0), .int (nI 1)], [.ref 28, .int (nI 1)], MW A B F sw, 0, 0)) 6 rfl ?_
  refine wp_call rfl rfl rfl (ev_up (ev_all hM) (by decide)) ?_
  refine wp_eq (f' := (9, [.ref 28, .int k, .int (nI 0), .int (nI 1)], [.int (nI (2 ^ n - 1)), .int (nI 1)], MW A B F sw, 0, 0)) rfl ?_
  refine wp_go (f' := ((if (nI (2 ^ n - 1)) < (nI 1) then 40 else 12), [.ref 28, .int k, .int (nI 0), .int (nI 1)], [], MW A B F sw, 0, 0)) 1 rfl ?_
  refine wp_ite (fun h1 => ?_) (fun h1 => ?_)
  · have h1 : 2 ^ n - 1 < 1 := (nI_ltI (a := 2 ^ n - 1) (b := 1) (by omega) (by omega)).mp h1
    refine wp_go (f' := (41, [.ref 28, .int k, .int (nI 0), .int (nI 1)], [.int (-1)], MW A B F sw, 0, 0)) 1 rfl ?_
    exact wp_iret rfl
  · have h1 : ¬ (2 ^ n - 1 < 1) := fun h9 => h1 ((nI_ltI (a := 2 ^ n - 1) (b := 1) (by omega) (by omega)).mpr h9)
    refine wp_go (f' := ((if k < 0 then 40 else 16), [.ref 28, .int k, .int (nI 0), .int (nI 1)], [], MW A B F sw, 0, 0)) 2 rfl ?_
    refine wp_ite (fun _ => ?_) (fun h9 => absurd hk h9)
    refine wp_go (f' := (41, [.ref 28, .int k, .int (nI 0), .int (nI 1)], [.int (-1)], MW A B F sw, 0, 0)) 1 rfl ?_
    exact wp_iret rfl
theorem ev_separator_t (hM : MI A F n nb) {k : Int32} (hk : ¬ k < 0) : mv_Ev xs Ls 4 101 [.ref 28, .int k] (MW A B F sw) (some (.int (pickN (sepN n nb) k (2 ^ n) 0 0)), MW A B F sw, 0, 0) := by
  refine ev_of_wp rfl rfl rfl ?_
  have hn := hM.1
  have hp := pow10 hn
  have hp1 : 1 ≤ 2 ^ n := Nat.one_le_two_pow
  have hal := all_lt hn
  refine wp_go (f' := (4, [.ref 28, .int k, .int (nI 0), .int (nI 0)], [], MW A B F sw, 0, 0)) 4 rfl ?_
  exact lp_M_separator hM hk (2 ^ n) 0 0 (by omega) (by omega)
theorem ev_clique_t (hM : MI A F n nb) {k : Int32} (hk : ¬ k < 0) : mv_Ev xs Ls 3 104 [.ref 28, .int k] (MW A B F sw) (some (.int (pickN (cliqueN n nb) k (2 ^ n - 1) 1 0)), MW A B F sw, 0, 0) := by
  refine ev_of_wp rfl rfl rfl ?_
  have hn := hM.1
  have hp := pow10 hn
  have hp1 : 1 ≤ 2 ^ n := Nat.one_le_two_pow
  have hal := all_lt hn
  refine wp_go (f' := (4, [.ref 28, .int k, .int (nI 0), .int (nI 1)], [], MW A B F sw, 0, 0)) 4 rfl ?_
  exact lp_M_clique hM hk (2 ^ n - 1) 1 0 (by omega) (by omega)
theorem ev_count0 (hM : MI A F n nb) : mv_Ev xs Ls 1 92 [.ref 28, .int (nI 0)] (MW A B F sw) (some (.int (nI n)), MW A B F sw, 0, 0) := by
  refine ev_of_wp rfl rfl rfl ?_
  have hn := hM.1
  refine wp_go (f' := ((if ¬ (nI 0) = (nI 6) then 10 else 6), [.ref 28, .int (nI 0), .retAddr 0, .retAddr 0, .retAddr 0], [], MW A B F sw, 0, 0)) 3 rfl ?_
  refine wp_ite (fun _ => ?_) (fun h9 => absurd (by decide : ¬ nI 0 = nI 6) h9)
  refine wp_go (f' := (60, [.ref 28, .int (nI 0), .int (nI 0), .retAddr 0, .retAddr 0], [.int (F 6)], MW A B F sw, 0, 0)) 6 rfl ?_
  rw [hM.2.1]
  exact wp_iret rfl
theorem ev_count1 (hM : MI A F n nb) {ed : Nat} (hE : F 7 = nI ed) : mv_Ev xs Ls 1 92 [.ref 28, .int (nI 1)] (MW A B F sw) (some (.int (nI ed)), MW A B F sw, 0, 0) := by
  refine ev_of_wp rfl rfl rfl ?_
  have hn := hM.1
  refine wp_go (f' := ((if ¬ (nI 1) = (nI 6) then 10 else 6), [.ref 28, .int (nI 1), .retAddr 0, .retAddr 0, .retAddr 0], [], MW A B F sw, 0, 0)) 3 rfl ?_
  refine wp_ite (fun _ => ?_) (fun h9 => absurd (by decide : ¬ nI 1 = nI 6) h9)
  refine wp_go (f' := (65, [.ref 28, .int (nI 1), .int (nI 0), .retAddr 0, .retAddr 0], [.int (F 7)], MW A B F sw, 0, 0)) 6 rfl ?_
  rw [hE]
  exact wp_iret rfl
theorem ev_count2 (hM : MI A F n nb) : mv_Ev xs Ls 3 92 [.ref 28, .int (nI 2)] (MW A B F sw) (some (.int (nI (partsN n nb (2 ^ n - 1)))), MW A B F sw, 0, 0) := by
  refine ev_of_wp rfl rfl rfl ?_
  have hn := hM.1
  have hp := pow10 hn
  have hp1 : 1 ≤ 2 ^ n := Nat.one_le_two_pow
  have hal := all_lt hn
  refine wp_go (f' := ((if ¬ (nI 2) = (nI 6) then 10 else 6), [.ref 28, .int (nI 2), .retAddr 0, .retAddr 0, .retAddr 0], [], MW A B F sw, 0, 0)) 3 rfl ?_
  refine wp_ite (fun _ => ?_) (fun h9 => absurd (by decide : ¬ nI 2 = nI 6) h9)
  refine wp_go (f' := (68, [.ref 28, .int (nI 2), .int (nI 0), .retAddr 0, .retAddr 0], [.ref 28, .ref 28], MW A B F sw, 0, 0)) 6 rfl ?_
  refine wp_call rfl rfl rfl (ev_up (ev_all hM) (by decide)) ?_
  refine wp_eq (f' := (71, [.ref 28, .int (nI 2), .int (nI 0), .retAddr 0, .retAddr 0], [.int (nI (2 ^ n - 1)), .ref 28], MW A B F sw, 0, 0)) rfl ?_
  refine wp_call rfl rfl rfl (ev_up (ev_parts hM (s := 2 ^ n - 1) (by omega)) (by decide)) ?_
  refine wp_eq (f' := (74, [.ref 28, .int (nI 2), .int (nI 0), .retAddr 0, .retAddr 0], [.int (nI (partsN n nb (2 ^ n - 1)))], MW A B F sw, 0, 0)) rfl ?_
  exact wp_iret rfl
/-- the greatest degree -/
def degN (n : Nat) (nb : Nat → Nat) : Nat := forN (fun k m => if m < pop (nb k) then pop (nb k) else m) n 0
/-- the greatest least degree of a set -/
def coreN (n : Nat) (nb : Nat → Nat) : Nat := forN (fun k m => if m < leastN n nb (k + 1) then leastN n nb (k + 1) else m) (2 ^ n - 1) 0
def holesN (n : Nat) (nb : Nat → Nat) : Nat := forN (fun k m => if holeN n nb (k + 1) then m + 1 else m) (2 ^ n - 1) 0
/-- the fewest vertices of a hole, -1 if there is none -/
def shortN (n : Nat) (nb : Nat → Nat) : Int32 := forN (fun k (m : Int32) => if holeN n nb (k + 1) = true ∧ (m = -1 ∨ nI (pop (k + 1)) < m) then nI (pop (k + 1)) else m) (2 ^ n - 1) (-1)
theorem leastN_le (n : Nat) (nb : Nat → Nat) (s : Nat) : leastN n nb s ≤ 10 := by
  refine forN_inv (I := fun _ (m : Nat) => m ≤ 10) (Nat.le_refl _) (fun k m hk hm => ?_) n (Nat.le_refl _)
  split
  · rename_i h; omega
  · exact hm
theorem ev_count3 (hM : MI A F n nb) : mv_Ev xs Ls 3 92 [.ref 28, .int (nI 3)] (MW A B F sw) (some (.int (nI (degN n nb))), MW A B F sw, 0, 0) := by
  refine ev_of_wp rfl rfl rfl ?_
  have hn := hM.1
  have hp := pow10 hn
  have hp1 : 1 ≤ 2 ^ n := Nat.one_le_two_pow
  have hal := all_lt hn
  refine wp_go (f' := ((if ¬ (nI 3) = (nI 6) then 10 else 6), [.ref 28, .int (nI 3), .retAddr 0, .retAddr 0, .retAddr 0], [], MW A B F sw, 0, 0)) 3 rfl ?_
  refine wp_ite (fun _ => ?_) (fun h9 => absurd (by decide : ¬ nI 3 = nI 6) h9)
  refine wp_go (f' := (77, [.ref 28, .int (nI 3), .int (nI 0), .int (nI 0), .retAddr 0], [], MW A B F sw, 0, 0)) 6 rfl ?_
  refine for_ind (P := fun (k : Nat) (m : Nat) => m ≤ 10 → mv_Wp xs Ls 2 6 false (some .int) mv_c92 (77, [.ref 28, .int (nI 3), .int (nI m), .int (nI k), .retAddr 0], [], MW A B F sw, 0, 0) (some (.int (nI (degN n nb))), MW A B F sw, 0, 0)) (f := fun k m => if m < pop (nb k) then pop (nb k) else m) (n := n) ?_ n 0 (Nat.le_refl _) ?_ ?_ 
  · intro k m hk ih hv 
    refine wp_go (f' := (82, [.ref 28, .int (nI 3), .int (nI m), .int (nI k), .retAddr 0], [.int (F 6), .int (nI k)], MW A B F sw, 0, 0)) 3 rfl ?_
    rw [hM.2.1]
    refine wp_go (f' := ((if (nI n) ≤ (nI k) then 118 else 85), [.ref 28, .int (nI 3), .int (nI m), .int (nI k), .retAddr 0], [], MW A B F sw, 0, 0)) 1 rfl ?_
    refine wp_ite (fun h9 => absurd h9 (nI_ge hk (by omega))) (fun _ => ?_)
    refine wp_go (f' := (90, [.ref 28, .int (nI 3), .int (nI m), .int (nI k), .retAddr 0], [.int (nI k), .ref 29], MW A B F sw, 0, 0)) 3 rfl ?_
    refine wp_iald rfl rfl (by omega) (by decide) ?_
    rw [hM.2.2.1 k (by omega)]
    have hnb := hM.2.2.2 k (by omega)
    refine wp_call rfl rfl rfl (ev_up (ev_onesN (s := nb k) (by omega) _) (by decide)) ?_
    refine wp_eq (f' := (94, [.ref 28, .int (nI 3), .int (nI m), .int (nI k), .retAddr 0], [.int (nI (pop (nb k)))], MW A B F sw, 0, 0)) rfl ?_
    have hpp := pop_le (s := nb k) (by omega)
    refine wp_go (f' := ((if (nI (pop (nb k))) ≤ (nI m) then 110 else 98), [.ref 28, .int (nI 3), .int (nI m), .int (nI k), .retAddr 0], [], MW A B F sw, 0, 0)) 2 rfl ?_
    refine wp_ite (fun h1 => ?_) (fun h1 => ?_)
    · have h1 : pop (nb k) ≤ m := (nI_leI (a := pop (nb k)) (b := m) (by omega) (by omega)).mp h1
      refine wp_go (f' := (115, [.ref 28, .int (nI 3), .int (nI m), .int ((nI k) + 1), .retAddr 0], [], MW A B F sw, 0, 0)) 3 rfl ?_
      rw [nI_1]
      refine wp_go (f' := (77, [.ref 28, .int (nI 3), .int (nI m), .int (nI (k + 1)), .retAddr 0], [], MW A B F sw, 0, 0)) 1 rfl ?_
      have e9 : (if m < pop (nb k) then pop (nb k) else m) = m := by simp [h1]; try omega
      have h8 := ih (by rw [e9]; omega)
      rw [e9] at h8
      exact h8
    · have h1 : ¬ (pop (nb k) ≤ m) := fun h9 => h1 ((nI_leI (a := pop (nb k)) (b := m) (by omega) (by omega)).mpr h9)
      refine wp_go (f' := (103, [.ref 28, .int (nI 3), .int (nI m), .int (nI k), .retAddr 0], [.int (nI k), .ref 29], MW A B F sw, 0, 0)) 3 rfl ?_
      refine wp_iald rfl rfl (by omega) (by decide) ?_
      rw [hM.2.2.1 k (by omega)]
      have hnb := hM.2.2.2 k (by omega)
      refine wp_call rfl rfl rfl (ev_up (ev_onesN (s := nb k) (by omega) _) (by decide)) ?_
      refine wp_eq (f' := (107, [.ref 28, .int (nI 3), .int (nI m), .int (nI k), .retAddr 0], [.int (nI (pop (nb k)))], MW A B F sw, 0, 0)) rfl ?_
      have hpp := pop_le (s := nb k) (by omega)
      refine wp_go (f' := (115, [.ref 28, .int (nI 3), .int (nI (pop (nb k))), .int ((nI k) + 1), .retAddr 0], [], MW A B F sw, 0, 0)) 3 rfl ?_
      rw [nI_1]
      refine wp_go (f' := (77, [.ref 28, .int (nI 3), .int (nI (pop (nb k))), .int (nI (k + 1)), .retAddr 0], [], MW A B F sw, 0, 0)) 1 rfl ?_
      have e9 : (if m < pop (nb k) then pop (nb k) else m) = pop (nb k) := by simp [h1]; try omega
      have h8 := ih (by rw [e9]; omega)
      rw [e9] at h8
      exact h8
  · intro hv 
    refine wp_go (f' := (82, [.ref 28, .int (nI 3), .int (nI (degN n nb)), .int (nI n), .retAddr 0], [.int (F 6), .int (nI n)], MW A B F sw, 0, 0)) 3 rfl ?_
    rw [hM.2.1]
    refine wp_go (f' := ((if (nI n) ≤ (nI n) then 118 else 85), [.ref 28, .int (nI 3), .int (nI (degN n nb)), .int (nI n), .retAddr 0], [], MW A B F sw, 0, 0)) 1 rfl ?_
    refine wp_ite (fun _ => ?_) (fun h9 => absurd (nI_le (Nat.le_refl _) (by omega)) h9)
    refine wp_go (f' := (119, [.ref 28, .int (nI 3), .int (nI (degN n nb)), .int (nI n), .retAddr 0], [.int (nI (degN n nb))], MW A B F sw, 0, 0)) 1 rfl ?_
    exact wp_iret rfl
  · omega
theorem ev_count4 (hM : MI A F n nb) : mv_Ev xs Ls 3 92 [.ref 28, .int (nI 4)] (MW A B F sw) (some (.int (nI (coreN n nb))), MW A B F sw, 0, 0) := by
  refine ev_of_wp rfl rfl rfl ?_
  have hn := hM.1
  have hp := pow10 hn
  have hp1 : 1 ≤ 2 ^ n := Nat.one_le_two_pow
  have hal := all_lt hn
  refine wp_go (f' := ((if ¬ (nI 4) = (nI 6) then 10 else 6), [.ref 28, .int (nI 4), .retAddr 0, .retAddr 0, .retAddr 0], [], MW A B F sw, 0, 0)) 3 rfl ?_
  refine wp_ite (fun _ => ?_) (fun h9 => absurd (by decide : ¬ nI 4 = nI 6) h9)
  refine wp_go (f' := (122, [.ref 28, .int (nI 4), .int (nI 0), .int (nI 1), .retAddr 0], [], MW A B F sw, 0, 0)) 6 rfl ?_
  refine for_ind (P := fun (k : Nat) (m : Nat) => m ≤ 10 → ∀ (d4 : Value), mv_Wp xs Ls 2 6 false (some .int) mv_c92 (122, [.ref 28, .int (nI 4), .int (nI m), .int (nI (k + 1)), d4], [], MW A B F sw, 0, 0) (some (.int (nI (coreN n nb))), MW A B F sw, 0, 0)) (f := fun k m => if m < leastN n nb (k + 1) then leastN n nb (k + 1) else m) (n := (2 ^ n - 1)) ?_ (2 ^ n - 1) 0 (Nat.le_refl _) ?_ ?_ (.retAddr 0)
  · intro k m hk ih hv d4
    refine wp_go (f' := (124, [.ref 28, .int (nI 4), .int (nI m), .int (nI (k + 1)), d4], [.ref 28, .int (nI (k + 1))], MW A B F sw, 0, 0)) 2 rfl ?_
    refine wp_call rfl rfl rfl (ev_up (ev_all hM) (by decide)) ?_
    refine wp_eq (f' := (127, [.ref 28, .int (nI 4), .int (nI m), .int (nI (k + 1)), d4], [.int (nI (2 ^ n - 1)), .int (nI (k + 1))], MW A B F sw, 0, 0)) rfl ?_
    refine wp_go (f' := ((if (nI (2 ^ n - 1)) < (nI (k + 1)) then 156 else 130), [.ref 28, .int (nI 4), .int (nI m), .int (nI (k + 1)), d4], [], MW A B F sw, 0, 0)) 1 rfl ?_
    refine wp_ite (fun h9 => absurd h9 (nI_nlt (by omega) (by omega))) (fun _ => ?_)
    refine wp_go (f' := (132, [.ref 28, .int (nI 4), .int (nI m), .int (nI (k + 1)), d4], [.int (nI (k + 1)), .ref 28], MW A B F sw, 0, 0)) 2 rfl ?_
    refine wp_call rfl rfl rfl (ev_up (ev_leastDegree hM (s := k + 1) (by omega)) (by decide)) ?_
    refine wp_eq (f' := (135, [.ref 28, .int (nI 4), .int (nI m), .int (nI (k + 1)), d4], [.int (nI (leastN n nb (k + 1)))], MW A B F sw, 0, 0)) rfl ?_
    have hle := leastN_le n nb (k + 1)
    refine wp_go (f' := ((if (nI (leastN n nb (k + 1))) ≤ (nI m) then 148 else 143), [.ref 28, .int (nI 4), .int (nI m), .int (nI (k + 1)), .int (nI (leastN n nb (k + 1)))], [], MW A B F sw, 0, 0)) 4 rfl ?_
    refine wp_ite (fun h1 => ?_) (fun h1 => ?_)
    · have h1 : leastN n nb (k + 1) ≤ m := (nI_leI (a := leastN n nb (k + 1)) (b := m) (by omega) (by omega)).mp h1
      refine wp_go (f' := (153, [.ref 28, .int (nI 4), .int (nI m), .int ((nI (k + 1)) + 1), .int (nI (leastN n nb (k + 1)))], [], MW A B F sw, 0, 0)) 3 rfl ?_
      rw [nI_1]
      refine wp_go (f' := (122, [.ref 28, .int (nI 4), .int (nI m), .int (nI ((k + 1) + 1)), .int (nI (leastN n nb (k + 1)))], [], MW A B F sw, 0, 0)) 1 rfl ?_
      have e9 : (if m < leastN n nb (k + 1) then leastN n nb (k + 1) else m) = m := by simp [h1]; try omega
      have h8 := ih (by rw [e9]; omega) (.int (nI (leastN n nb (k + 1))))
      rw [e9] at h8
      exact h8
    · have h1 : ¬ (leastN n nb (k + 1) ≤ m) := fun h9 => h1 ((nI_leI (a := leastN n nb (k + 1)) (b := m) (by omega) (by omega)).mpr h9)
      refine wp_go (f' := (153, [.ref 28, .int (nI 4), .int (nI (leastN n nb (k + 1))), .int ((nI (k + 1)) + 1), .int (nI (leastN n nb (k + 1)))], [], MW A B F sw, 0, 0)) 4 rfl ?_
      rw [nI_1]
      refine wp_go (f' := (122, [.ref 28, .int (nI 4), .int (nI (leastN n nb (k + 1))), .int (nI ((k + 1) + 1)), .int (nI (leastN n nb (k + 1)))], [], MW A B F sw, 0, 0)) 1 rfl ?_
      have e9 : (if m < leastN n nb (k + 1) then leastN n nb (k + 1) else m) = leastN n nb (k + 1) := by simp [h1]; try omega
      have h8 := ih (by rw [e9]; omega) (.int (nI (leastN n nb (k + 1))))
      rw [e9] at h8
      exact h8
  · intro hv d4
    refine wp_go (f' := (124, [.ref 28, .int (nI 4), .int (nI (coreN n nb)), .int (nI (2 ^ n - 1 + 1)), d4], [.ref 28, .int (nI (2 ^ n - 1 + 1))], MW A B F sw, 0, 0)) 2 rfl ?_
    refine wp_call rfl rfl rfl (ev_up (ev_all hM) (by decide)) ?_
    refine wp_eq (f' := (127, [.ref 28, .int (nI 4), .int (nI (coreN n nb)), .int (nI (2 ^ n - 1 + 1)), d4], [.int (nI (2 ^ n - 1)), .int (nI (2 ^ n - 1 + 1))], MW A B F sw, 0, 0)) rfl ?_
    refine wp_go (f' := ((if (nI (2 ^ n - 1)) < (nI (2 ^ n - 1 + 1)) then 156 else 130), [.ref 28, .int (nI 4), .int (nI (coreN n nb)), .int (nI (2 ^ n - 1 + 1)), d4], [], MW A B F sw, 0, 0)) 1 rfl ?_
    refine wp_ite (fun _ => ?_) (fun h9 => absurd (nI_lt (by omega) (by omega)) h9)
    refine wp_go (f' := (157, [.ref 28, .int (nI 4), .int (nI (coreN n nb)), .int (nI (2 ^ n - 1 + 1)), d4], [.int (nI (coreN n nb))], MW A B F sw, 0, 0)) 1 rfl ?_
    exact wp_iret rfl
  · omega
theorem ev_count5 (hM : MI A F n nb) : mv_Ev xs Ls 4 92 [.ref 28, .int (nI 5)] (MW A B F sw) (some (.int (nI (holesN n nb))), MW A B F sw, 0, 0) := by
  refine ev_of_wp rfl rfl rfl ?_
  have hn := hM.1
  have hp := pow10 hn
  have hp1 : 1 ≤ 2 ^ n := Nat.one_le_two_pow
  have hal := all_lt hn
  refine wp_go (f' := ((if ¬ (nI 5) = (nI 6) then 10 else 6), [.ref 28, .int (nI 5), .retAddr 0, .retAddr 0, .retAddr 0], [], MW A B F sw, 0, 0)) 3 rfl ?_
  refine wp_ite (fun _ => ?_) (fun h9 => absurd (by decide : ¬ nI 5 = nI 6) h9)
  refine wp_go (f' := (160, [.ref 28, .int (nI 5), .int (nI 0), .int (nI 1), .retAddr 0], [], MW A B F sw, 0, 0)) 6 rfl ?_
  refine for_ind (P := fun (k : Nat) (m : Nat) => ∀ (d4 : Value), mv_Wp xs Ls 3 6 false (some .int) mv_c92 (160, [.ref 28, .int (nI 5), .int (nI m), .int (nI (k + 1)), d4], [], MW A B F sw, 0, 0) (some (.int (nI (holesN n nb))), MW A B F sw, 0, 0)) (f := fun k m => if holeN n nb (k + 1) then m + 1 else m) (n := (2 ^ n - 1)) ?_ (2 ^ n - 1) 0 (Nat.le_refl _) ?_  (.retAddr 0)
  · intro k m hk ih  d4
    refine wp_go (f' := (162, [.ref 28, .int (nI 5), .int (nI m), .int (nI (k + 1)), d4], [.ref 28, .int (nI (k + 1))], MW A B F sw, 0, 0)) 2 rfl ?_
    refine wp_call rfl rfl rfl (ev_up (ev_all hM) (by decide)) ?_
    refine wp_eq (f' := (165, [.ref 28, .int (nI 5), .int (nI m), .int (nI (k + 1)), d4], [.int (nI (2 ^ n - 1)), .int (nI (k + 1))], MW A B F sw, 0, 0)) rfl ?_
    refine wp_go (f' := ((if (nI (2 ^ n - 1)) < (nI (k + 1)) then 217 else 168), [.ref 28, .int (nI 5), .int (nI m), .int (nI (k + 1)), d4], [], MW A B F sw, 0, 0)) 1 rfl ?_
    refine wp_ite (fun h9 => absurd h9 (nI_nlt (by omega) (by omega))) (fun _ => ?_)
    refine wp_go (f' := (170, [.ref 28, .int (nI 5), .int (nI m), .int (nI (k + 1)), d4], [.int (nI (k + 1)), .ref 28], MW A B F sw, 0, 0)) 2 rfl ?_
    refine wp_call rfl rfl rfl (ev_up (ev_isHole hM (s := k + 1) (by omega)) (by decide)) ?_
    refine wp_eq (f' := (173, [.ref 28, .int (nI 5), .int (nI m), .int (nI (k + 1)), d4], [.int (bI (holeN n nb (k + 1)))], MW A B F sw, 0, 0)) rfl ?_
    refine wp_go (f' := ((if (bI (holeN n nb (k + 1))) = 0 then 211 else 176), [.ref 28, .int (nI 5), .int (nI m), .int (nI (k + 1)), d4], [], MW A B F sw, 0, 0)) 1 rfl ?_
    refine wp_ite (fun h1 => ?_) (fun h1 => ?_)
    · have h1 := bI_0.mp h1
      refine wp_go (f' := (214, [.ref 28, .int (nI 5), .int (nI m), .int ((nI (k + 1)) + 1), d4], [], MW A B F sw, 0, 0)) 1 rfl ?_
      rw [nI_1]
      refine wp_go (f' := (160, [.ref 28, .int (nI 5), .int (nI m), .int (nI ((k + 1) + 1)), d4], [], MW A B F sw, 0, 0)) 1 rfl ?_
      refine wp_eq ?_ (ih  d4)
      simp [h1, bIT, bIF, nI1, nI0]
    · have h1 := bI_n0 h1
      refine wp_go (f' := (177, [.ref 28, .int (nI 5), .int (nI m), .int (nI (k + 1)), d4], [.int (nI (k + 1))], MW A B F sw, 0, 0)) 1 rfl ?_
      refine wp_call rfl rfl rfl (ev_up (ev_onesN (s := k + 1) (by omega) _) (by decide)) ?_
      refine wp_eq (f' := (180, [.ref 28, .int (nI 5), .int (nI m), .int (nI (k + 1)), d4], [.int (nI (pop (k + 1)))], MW A B F sw, 0, 0)) rfl ?_
      have hpp := pop_le (s := k + 1) (by omega)
      refine wp_go (f' := ((if ¬ (nI 5) = (nI 5) then 193 else 187), [.ref 28, .int (nI 5), .int (nI m), .int (nI (k + 1)), .int (nI (pop (k + 1)))], [], MW A B F sw, 0, 0)) 4 rfl ?_
      refine wp_ite (fun h9 => absurd h9 (by decide : ¬ ¬ nI 5 = nI 5)) (fun _ => ?_)
      refine wp_go (f' := (190, [.ref 28, .int (nI 5), .int (nI m), .int (nI (k + 1)), .int (nI (pop (k + 1)))], [.int ((nI m) + (nI 1))], MW A B F sw, 0, 0)) 3 rfl ?_
      rw [nI_add]
      refine wp_go (f' := (214, [.ref 28, .int (nI 5), .int (nI (m + 1)), .int ((nI (k + 1)) + 1), .int (nI (pop (k + 1)))], [], MW A B F sw, 0, 0)) 3 rfl ?_
      rw [nI_1]
      refine wp_go (f' := (160, [.ref 28, .int (nI 5), .int (nI (m + 1)), .int (nI ((k + 1) + 1)), .int (nI (pop (k + 1)))], [], MW A B F sw, 0, 0)) 1 rfl ?_
      refine wp_eq ?_ (ih  (.int (nI (pop (k + 1)))))
      simp [h1, bIT, bIF, nI1, nI0]
  · intro  d4
    refine wp_go (f' := (162, [.ref 28, .int (nI 5), .int (nI (holesN n nb)), .int (nI (2 ^ n - 1 + 1)), d4], [.ref 28, .int (nI (2 ^ n - 1 + 1))], MW A B F sw, 0, 0)) 2 rfl ?_
    refine wp_call rfl rfl rfl (ev_up (ev_all hM) (by decide)) ?_
    refine wp_eq (f' := (165, [.ref 28, .int (nI 5), .int (nI (holesN n nb)), .int (nI (2 ^ n - 1 + 1)), d4], [.int (nI (2 ^ n - 1)), .int (nI (2 ^ n - 1 + 1))], MW A B F sw, 0, 0)) rfl ?_
    refine wp_go (f' := ((if (nI (2 ^ n - 1)) < (nI (2 ^ n - 1 + 1)) then 217 else 168), [.ref 28, .int (nI 5), .int (nI (holesN n nb)), .int (nI (2 ^ n - 1 + 1)), d4], [], MW A B F sw, 0, 0)) 1 rfl ?_
    refine wp_ite (fun _ => ?_) (fun h9 => absurd (nI_lt (by omega) (by omega)) h9)
    refine wp_go (f' := (218, [.ref 28, .int (nI 5), .int (nI (holesN n nb)), .int (nI (2 ^ n - 1 + 1)), d4], [.int (nI (holesN n nb))], MW A B F sw, 0, 0)) 1 rfl ?_
    exact wp_iret rfl
theorem ev_count6 (hM : MI A F n nb) : mv_Ev xs Ls 4 92 [.ref 28, .int (nI 6)] (MW A B F sw) (some (.int (shortN n nb)), MW A B F sw, 0, 0) := by
  refine ev_of_wp rfl rfl rfl ?_
  have hn := hM.1
  have hp := pow10 hn
  have hp1 : 1 ≤ 2 ^ n := Nat.one_le_two_pow
  have hal := all_lt hn
  refine wp_go (f' := ((if ¬ (nI 6) = (nI 6) then 10 else 6), [.ref 28, .int (nI 6), .retAddr 0, .retAddr 0, .retAddr 0], [], MW A B F sw, 0, 0)) 3 rfl ?_
  refine wp_ite (fun h9 => absurd h9 (by decide : ¬ ¬ nI 6 = nI 6)) (fun _ => ?_)
  refine wp_go (f' := (160, [.ref 28, .int (nI 6), .int (-1), .int (nI 1), .retAddr 0], [], MW A B F sw, 0, 0)) 7 rfl ?_
  refine for_ind (P := fun (k : Nat) (m : Int32) => ∀ (d4 : Value), mv_Wp xs Ls 3 6 false (some .int) mv_c92 (160, [.ref 28, .int (nI 6), .int m, .int (nI (k + 1)), d4], [], MW A B F sw, 0, 0) (some (.int (shortN n nb)), MW A B F sw, 0, 0)) (f := fun k (m : Int32) => if holeN n nb (k + 1) = true ∧ (m = -1 ∨ nI (pop (k + 1)) < m) then nI (pop (k + 1)) else m) (n := (2 ^ n - 1)) ?_ (2 ^ n - 1) (-1) (Nat.le_refl _) ?_  (.retAddr 0)
  · intro k m hk ih  d4
    refine wp_go (f' := (162, [.ref 28, .int (nI 6), .int m, .int (nI (k + 1)), d4], [.ref 28, .int (nI (k + 1))], MW A B F sw, 0, 0)) 2 rfl ?_
    refine wp_call rfl rfl rfl (ev_up (ev_all hM) (by decide)) ?_
    refine wp_eq (f' := (165, [.ref 28, .int (nI 6), .int m, .int (nI (k + 1)), d4], [.int (nI (2 ^ n - 1)), .int (nI (k + 1))], MW A B F sw, 0, 0)) rfl ?_
    refine wp_go (f' := ((if (nI (2 ^ n - 1)) < (nI (k + 1)) then 217 else 168), [.ref 28, .int (nI 6), .int m, .int (nI (k + 1)), d4], [], MW A B F sw, 0, 0)) 1 rfl ?_
    refine wp_ite (fun h9 => absurd h9 (nI_nlt (by omega) (by omega))) (fun _ => ?_)
    refine wp_go (f' := (170, [.ref 28, .int (nI 6), .int m, .int (nI (k + 1)), d4], [.int (nI (k + 1)), .ref 28], MW A B F sw, 0, 0)) 2 rfl ?_
    refine wp_call rfl rfl rfl (ev_up (ev_isHole hM (s := k + 1) (by omega)) (by decide)) ?_
    refine wp_eq (f' := (173, [.ref 28, .int (nI 6), .int m, .int (nI (k + 1)), d4], [.int (bI (holeN n nb (k + 1)))], MW A B F sw, 0, 0)) rfl ?_
    refine wp_go (f' := ((if (bI (holeN n nb (k + 1))) = 0 then 211 else 176), [.ref 28, .int (nI 6), .int m, .int (nI (k + 1)), d4], [], MW A B F sw, 0, 0)) 1 rfl ?_
    refine wp_ite (fun h1 => ?_) (fun h1 => ?_)
    · have h1 := bI_0.mp h1
      refine wp_go (f' := (214, [.ref 28, .int (nI 6), .int m, .int ((nI (k + 1)) + 1), d4], [], MW A B F sw, 0, 0)) 1 rfl ?_
      rw [nI_1]
      refine wp_go (f' := (160, [.ref 28, .int (nI 6), .int m, .int (nI ((k + 1) + 1)), d4], [], MW A B F sw, 0, 0)) 1 rfl ?_
      refine wp_eq ?_ (ih d4)
      simp [h1]
    · have h1 := bI_n0 h1
      refine wp_go (f' := (177, [.ref 28, .int (nI 6), .int m, .int (nI (k + 1)), d4], [.int (nI (k + 1))], MW A B F sw, 0, 0)) 1 rfl ?_
      refine wp_call rfl rfl rfl (ev_up (ev_onesN (s := k + 1) (by omega) _) (by decide)) ?_
      refine wp_eq (f' := (180, [.ref 28, .int (nI 6), .int m, .int (nI (k + 1)), d4], [.int (nI (pop (k + 1)))], MW A B F sw, 0, 0)) rfl ?_
      have hpp := pop_le (s := k + 1) (by omega)
      refine wp_go (f' := ((if ¬ (nI 6) = (nI 5) then 193 else 187), [.ref 28, .int (nI 6), .int m, .int (nI (k + 1)), .int (nI (pop (k + 1)))], [], MW A B F sw, 0, 0)) 4 rfl ?_
      refine wp_ite (fun _ => ?_) (fun h9 => absurd (by decide : ¬ nI 6 = nI 5) h9)
      refine wp_go (f' := ((if m = (-1) then 204 else 198), [.ref 28, .int (nI 6), .int m, .int (nI (k + 1)), .int (nI (pop (k + 1)))], [], MW A B F sw, 0, 0)) 3 rfl ?_
      refine wp_ite (fun h2 => ?_) (fun h2 => ?_)
      · skip
        refine wp_go (f' := (214, [.ref 28, .int (nI 6), .int (nI (pop (k + 1))), .int ((nI (k + 1)) + 1), .int (nI (pop (k + 1)))], [], MW A B F sw, 0, 0)) 4 rfl ?_
        rw [nI_1]
        refine wp_go (f' := (160, [.ref 28, .int (nI 6), .int (nI (pop (k + 1))), .int (nI ((k + 1) + 1)), .int (nI (pop (k + 1)))], [], MW A B F sw, 0, 0)) 1 rfl ?_
        refine wp_eq ?_ (ih (.int (nI (pop (k + 1)))))
        simp [h1, h2]
      · skip
        refine wp_go (f' := ((if m ≤ (nI (pop (k + 1))) then 209 else 204), [.ref 28, .int (nI 6), .int m, .int (nI (k + 1)), .int (nI (pop (k + 1)))], [], MW A B F sw, 0, 0)) 3 rfl ?_
        refine wp_ite (fun h3 => ?_) (fun h3 => ?_)
        · skip
          refine wp_go (f' := (214, [.ref 28, .int (nI 6), .int m, .int ((nI (k + 1)) + 1), .int (nI (pop (k + 1)))], [], MW A B F sw, 0, 0)) 3 rfl ?_
          rw [nI_1]
          refine wp_go (f' := (160, [.ref 28, .int (nI 6), .int m, .int (nI ((k + 1) + 1)), .int (nI (pop (k + 1)))], [], MW A B F sw, 0, 0)) 1 rfl ?_
          refine wp_eq ?_ (ih (.int (nI (pop (k + 1)))))
          simp [h1, h2, Int32.not_lt.mpr h3]
        · skip
          refine wp_go (f' := (214, [.ref 28, .int (nI 6), .int (nI (pop (k + 1))), .int ((nI (k + 1)) + 1), .int (nI (pop (k + 1)))], [], MW A B F sw, 0, 0)) 4 rfl ?_
          rw [nI_1]
          refine wp_go (f' := (160, [.ref 28, .int (nI 6), .int (nI (pop (k + 1))), .int (nI ((k + 1) + 1)), .int (nI (pop (k + 1)))], [], MW A B F sw, 0, 0)) 1 rfl ?_
          refine wp_eq ?_ (ih (.int (nI (pop (k + 1)))))
          simp [h1, h2, Int32.not_le.mp h3]
  · intro  d4
    refine wp_go (f' := (162, [.ref 28, .int (nI 6), .int (shortN n nb), .int (nI (2 ^ n - 1 + 1)), d4], [.ref 28, .int (nI (2 ^ n - 1 + 1))], MW A B F sw, 0, 0)) 2 rfl ?_
    refine wp_call rfl rfl rfl (ev_up (ev_all hM) (by decide)) ?_
    refine wp_eq (f' := (165, [.ref 28, .int (nI 6), .int (shortN n nb), .int (nI (2 ^ n - 1 + 1)), d4], [.int (nI (2 ^ n - 1)), .int (nI (2 ^ n - 1 + 1))], MW A B F sw, 0, 0)) rfl ?_
    refine wp_go (f' := ((if (nI (2 ^ n - 1)) < (nI (2 ^ n - 1 + 1)) then 217 else 168), [.ref 28, .int (nI 6), .int (shortN n nb), .int (nI (2 ^ n - 1 + 1)), d4], [], MW A B F sw, 0, 0)) 1 rfl ?_
    refine wp_ite (fun _ => ?_) (fun h9 => absurd (nI_lt (by omega) (by omega)) h9)
    refine wp_go (f' := (218, [.ref 28, .int (nI 6), .int (shortN n nb), .int (nI (2 ^ n - 1 + 1)), d4], [.int (shortN n nb)], MW A B F sw, 0, 0)) 1 rfl ?_
    exact wp_iret rfl
theorem ev_count_f {x : Int32} (hx : outN x 6 = true) : mv_Ev xs Ls 1 92 [.ref 28, .int x] (MW A B F sw) (some (.int (-2)), MW A B F sw, 0, 0) := by
  refine ev_of_wp rfl rfl rfl ?_
  refine wp_go (f' := ((if ¬ x = (nI 6) then 10 else 6), [.ref 28, .int x, .retAddr 0, .retAddr 0, .retAddr 0], [], MW A B F sw, 0, 0)) 3 rfl ?_
  refine wp_ite (fun _ => ?_) (fun h9 => absurd (out_ne (c := 6) (by omega) hx (by omega)) h9)
  refine wp_go (f' := (13, [.ref 28, .int x, .int (nI 0), .retAddr 0, .retAddr 0], [.int x], MW A B F sw, 0, 0)) 3 rfl ?_
  refine wp_tsOut rfl (by have h8 := out_int (m := 6) (by omega) hx; omega) rfl ?_
  refine wp_go (f' := (221, [.ref 28, .int x, .int (nI 0), .retAddr 0, .retAddr 0], [.int (-2)], MW A B F sw, 0, 0)) 1 rfl ?_
  exact wp_iret rfl
end MM
