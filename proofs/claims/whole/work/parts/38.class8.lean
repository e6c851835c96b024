theorem nI_n1 {t : Nat} (ht : t < 2 ^ 31) : ¬ nI t = -1 := by
  intro h
  have := congrArg Int32.toInt h
  rw [nI_toInt ht] at this
  have h2 : (-1 : Int32).toInt = -1 := by decide
  omega
/-- the class's sets of a best -/
def suchN (n : Nat) (nb : Nat → Nat) (w : Nat) (s : Nat) : Bool := match w with
  | 0 => decide (inN nb s = 0)
  | 1 => decide (sd (sd (2 ^ n - 1) s) (rcN nb s) = 0)
  | 2 => decide (inN nb (sd (2 ^ n - 1) s) = 0)
  | 3 => cclN n nb s
  | _ => decide (pcN nb (sd (2 ^ n - 1) s) = sd (2 ^ n - 1) s) && (decide (¬ sd (2 ^ n - 1) s = 0) || decide (n = 0))
/-- the class's seeking: the set and its weight -/
def cbsS (G : Nat → Bool) (W : Nat → Nat) (least : Bool) : Nat → Int32 × Int32 → Int32 × Int32 := fun s q => if G s = true ∧ (q.1 = -1 ∨ (if least = true then nI (W s) < q.2 else q.2 < nI (W s))) then (nI s, nI (W s)) else q
def cbsN (G : Nat → Bool) (W : Nat → Nat) (least : Bool) (N : Nat) : Int32 × Int32 := forN (cbsS G W least) N (-1, 0)
theorem cbs_ok {G : Nat → Bool} {W : Nat → Nat} {least : Bool} (N : Nat) : (cbsN G W least N).1 = -1 ∨ ∃ t, t < N ∧ cbsN G W least N = (nI t, nI (W t)) := by
  refine forN_inv (I := fun k (q : Int32 × Int32) => q.1 = -1 ∨ ∃ t, t < k ∧ q = (nI t, nI (W t))) (Or.inl rfl) (fun k q hk hq => ?_) N (Nat.le_refl _)
  have e : cbsS G W least k q = (nI k, nI (W k)) ∨ cbsS G W least k q = q := by
    by_cases h : G k = true ∧ (q.1 = -1 ∨ (if least = true then nI (W k) < q.2 else q.2 < nI (W k)))
    · exact Or.inl (if_pos h)
    · exact Or.inr (if_neg h)
  rcases e with e | e
  · exact Or.inr ⟨k, by omega, e⟩
  · rw [e]
    rcases hq with h | ⟨t, ht, e⟩
    · exact Or.inl h
    · exact Or.inr ⟨t, by omega, e⟩
/-- the class's best weight -/
def cbwN (q : Int32 × Int32) : Int32 := if q.1 = -1 then -1 else q.2
/-- all sets that have t in them, by rising number, from s on -/
def cfwF (n : Nat) (nb : Nat → Nat) (t : Nat) : Nat → Nat → Int32 → Int32
  | 0, _, m => m
  | f + 1, s, m => if s < 2 ^ n then cfwF n nb t f ((s + 1) ||| t) (if pcN nb s = s ∧ (m = -1 ∨ nI (pop s - 1) < m) then nI (pop s - 1) else m) else m
def cfwN (n : Nat) (nb : Nat → Nat) (t : Nat) : Int32 := cfwF n nb t 1024 t (-1)
section CC
variable {xs : Nat → Int32} {Ls : Nat} {A : Nat → Nat → Int32} {B : Nat → Nat → Int64} {F : Nat → Int32} {sw : Bool} {n : Nat} {nb : Nat → Nat}
theorem ev_fSuch0 (hC : CI A F n nb) (hR : RI A n nb) {s : Nat} (hs : s < 2 ^ n) : mv_Ev xs Ls 3 78 [.ref 23, .int (nI 0), .int (nI s)] (MW A B F sw) (some (.int (bI (suchN n nb 0 s))), MW A B F sw, 0, 0) := by
  refine ev_of_wp rfl rfl rfl ?_
  have hn := hC.1
  have hp := pow10 hn
  have hp1 : 1 ≤ 2 ^ n := Nat.one_le_two_pow
  have hal := all_lt hn
  have hsl : sd (2 ^ n - 1) s < 2 ^ n := by have h9 := sd_le (a := 2 ^ n - 1) (b := s); omega
  have hin1 := in_le (nb := nb) s (by omega)
  have hin2 := in_le (nb := nb) (sd (2 ^ n - 1) s) (by omega)
  have hss : sd (sd (2 ^ n - 1) s) (rcN nb s) < 1024 := sd_lt (by omega)
  show mv_Wp _ _ _ _ _ _ _ _ (some (.int (bI (decide (inN nb s = 0)))), _, _, _)
  refine wp_go (f' := (4, [.ref 23, .int (nI 0), .int (nI s), .retAddr 0], [.ref 1], MW A B F sw, 0, 0)) 2 rfl ?_
  refine wp_call rfl rfl rfl (ev_up (ev_gAll hC) (by decide)) ?_
  refine wp_eq (f' := (7, [.ref 23, .int (nI 0), .int (nI s), .retAddr 0], [.int (nI (2 ^ n - 1))], MW A B F sw, 0, 0)) rfl ?_
  refine wp_go (f' := (11, [.ref 23, .int (nI 0), .int (nI s), .retAddr 0], [.int ((nI (2 ^ n - 1)) &&& ((nI s) ^^^ (-1)))], MW A B F sw, 0, 0)) 4 rfl ?_
  rw [bx_sd (by omega)]
  refine wp_go (f' := (52, [.ref 23, .int (nI 0), .int (nI s), .int (nI (sd (2 ^ n - 1) s))], [.int (nI s), .ref 5], MW A B F sw, 0, 0)) 7 rfl ?_
  refine wp_iald rfl rfl (by omega) (by decide) ?_
  rw [(hR s (by omega)).2.1]
  refine wp_go (f' := ((if ¬ (nI (inN nb s)) = 0 then 60 else 56), [.ref 23, .int (nI 0), .int (nI s), .int (nI (sd (2 ^ n - 1) s))], [], MW A B F sw, 0, 0)) 1 rfl ?_
  refine wp_ite (fun h1 => ?_) (fun h1 => ?_)
  · have h1 : ¬ (inN nb s = 0) := fun h9 => h1 ((nI_eq (a := inN nb s) (b := 0) (by omega) (by omega)).mpr h9)
    refine wp_go (f' := (61, [.ref 23, .int (nI 0), .int (nI s), .int (nI (sd (2 ^ n - 1) s))], [.int (nI 0)], MW A B F sw, 0, 0)) 1 rfl ?_
    rw [show bI (decide (inN nb s = 0)) = nI 0 by simp [h1, bIT, bIF, nI1, nI0]]
    exact wp_zret rfl (by first | exact Or.inl rfl | exact Or.inr rfl)
  · have h1 := Classical.not_not.mp h1; have h1 : inN nb s = 0 := (nI_eq (a := inN nb s) (b := 0) (by omega) (by omega)).mp h1
    refine wp_go (f' := (61, [.ref 23, .int (nI 0), .int (nI s), .int (nI (sd (2 ^ n - 1) s))], [.int (nI 1)], MW A B F sw, 0, 0)) 2 rfl ?_
    rw [show bI (decide (inN nb s = 0)) = nI 1 by simp [h1, bIT, bIF, nI1, nI0]]
    exact wp_zret rfl (by first | exact Or.inl rfl | exact Or.inr rfl)
theorem ev_fSuch1 (hC : CI A F n nb) (hR : RI A n nb) {s : Nat} (hs : s < 2 ^ n) : mv_Ev xs Ls 3 78 [.ref 23, .int (nI 1), .int (nI s)] (MW A B F sw) (some (.int (bI (suchN n nb 1 s))), MW A B F sw, 0, 0) := by
  refine ev_of_wp rfl rfl rfl ?_
  have hn := hC.1
  have hp := pow10 hn
  have hp1 : 1 ≤ 2 ^ n := Nat.one_le_two_pow
  have hal := all_lt hn
  have hsl : sd (2 ^ n - 1) s < 2 ^ n := by have h9 := sd_le (a := 2 ^ n - 1) (b := s); omega
  have hin1 := in_le (nb := nb) s (by omega)
  have hin2 := in_le (nb := nb) (sd (2 ^ n - 1) s) (by omega)
  have hss : sd (sd (2 ^ n - 1) s) (rcN nb s) < 1024 := sd_lt (by omega)
  show mv_Wp _ _ _ _ _ _ _ _ (some (.int (bI (decide (sd (sd (2 ^ n - 1) s) (rcN nb s) = 0)))), _, _, _)
  refine wp_go (f' := (4, [.ref 23, .int (nI 1), .int (nI s), .retAddr 0], [.ref 1], MW A B F sw, 0, 0)) 2 rfl ?_
  refine wp_call rfl rfl rfl (ev_up (ev_gAll hC) (by decide)) ?_
  refine wp_eq (f' := (7, [.ref 23, .int (nI 1), .int (nI s), .retAddr 0], [.int (nI (2 ^ n - 1))], MW A B F sw, 0, 0)) rfl ?_
  refine wp_go (f' := (11, [.ref 23, .int (nI 1), .int (nI s), .retAddr 0], [.int ((nI (2 ^ n - 1)) &&& ((nI s) ^^^ (-1)))], MW A B F sw, 0, 0)) 4 rfl ?_
  rw [bx_sd (by omega)]
  refine wp_go (f' := (71, [.ref 23, .int (nI 1), .int (nI s), .int (nI (sd (2 ^ n - 1) s))], [.int (nI s), .ref 4, .int (nI (sd (2 ^ n - 1) s))], MW A B F sw, 0, 0)) 8 rfl ?_
  refine wp_iald rfl rfl (by omega) (by decide) ?_
  rw [(hR s (by omega)).1]
  have hrcl := rc_lt hC.2.2.2 s (by omega)
  refine wp_go (f' := (75, [.ref 23, .int (nI 1), .int (nI s), .int (nI (sd (2 ^ n - 1) s))], [.int ((nI (sd (2 ^ n - 1) s)) &&& ((nI (rcN nb s)) ^^^ (-1)))], MW A B F sw, 0, 0)) 3 rfl ?_
  rw [bx_sd (by omega)]
  refine wp_go (f' := ((if ¬ (nI (sd (sd (2 ^ n - 1) s) (rcN nb s))) = 0 then 82 else 78), [.ref 23, .int (nI 1), .int (nI s), .int (nI (sd (2 ^ n - 1) s))], [], MW A B F sw, 0, 0)) 1 rfl ?_
  refine wp_ite (fun h1 => ?_) (fun h1 => ?_)
  · have h1 : ¬ (sd (sd (2 ^ n - 1) s) (rcN nb s) = 0) := fun h9 => h1 ((nI_eq (a := sd (sd (2 ^ n - 1) s) (rcN nb s)) (b := 0) (by omega) (by omega)).mpr h9)
    refine wp_go (f' := (83, [.ref 23, .int (nI 1), .int (nI s), .int (nI (sd (2 ^ n - 1) s))], [.int (nI 0)], MW A B F sw, 0, 0)) 1 rfl ?_
    rw [show bI (decide (sd (sd (2 ^ n - 1) s) (rcN nb s) = 0)) = nI 0 by simp [h1, bIT, bIF, nI1, nI0]]
    exact wp_zret rfl (by first | exact Or.inl rfl | exact Or.inr rfl)
  · have h1 := Classical.not_not.mp h1; have h1 : sd (sd (2 ^ n - 1) s) (rcN nb s) = 0 := (nI_eq (a := sd (sd (2 ^ n - 1) s) (rcN nb s)) (b := 0) (by omega) (by omega)).mp h1
    refine wp_go (f' := (83, [.ref 23, .int (nI 1), .int (nI s), .int (nI (sd (2 ^ n - 1) s))], [.int (nI 1)], MW A B F sw, 0, 0)) 2 rfl ?_
    rw [show bI (decide (sd (sd (2 ^ n - 1) s) (rcN nb s) = 0)) = nI 1 by simp [h1, bIT, bIF, nI1, nI0]]
    exact wp_zret rfl (by first | exact Or.inl rfl | exact Or.inr rfl)
theorem ev_fSuch2 (hC : CI A F n nb) (hR : RI A n nb) {s : Nat} (hs : s < 2 ^ n) : mv_Ev xs Ls 3 78 [.ref 23, .int (nI 2), .int (nI s)] (MW A B F sw) (some (.int (bI (suchN n nb 2 s))), MW A B F sw, 0, 0) := by
  refine ev_of_wp rfl rfl rfl ?_
  have hn := hC.1
  have hp := pow10 hn
  have hp1 : 1 ≤ 2 ^ n := Nat.one_le_two_pow
  have hal := all_lt hn
  have hsl : sd (2 ^ n - 1) s < 2 ^ n := by have h9 := sd_le (a := 2 ^ n - 1) (b := s); omega
  have hin1 := in_le (nb := nb) s (by omega)
  have hin2 := in_le (nb := nb) (sd (2 ^ n - 1) s) (by omega)
  have hss : sd (sd (2 ^ n - 1) s) (rcN nb s) < 1024 := sd_lt (by omega)
  show mv_Wp _ _ _ _ _ _ _ _ (some (.int (bI (decide (inN nb (sd (2 ^ n - 1) s) = 0)))), _, _, _)
  refine wp_go (f' := (4, [.ref 23, .int (nI 2), .int (nI s), .retAddr 0], [.ref 1], MW A B F sw, 0, 0)) 2 rfl ?_
  refine wp_call rfl rfl rfl (ev_up (ev_gAll hC) (by decide)) ?_
  refine wp_eq (f' := (7, [.ref 23, .int (nI 2), .int (nI s), .retAddr 0], [.int (nI (2 ^ n - 1))], MW A B F sw, 0, 0)) rfl ?_
  refine wp_go (f' := (11, [.ref 23, .int (nI 2), .int (nI s), .retAddr 0], [.int ((nI (2 ^ n - 1)) &&& ((nI s) ^^^ (-1)))], MW A B F sw, 0, 0)) 4 rfl ?_
  rw [bx_sd (by omega)]
  refine wp_go (f' := (92, [.ref 23, .int (nI 2), .int (nI s), .int (nI (sd (2 ^ n - 1) s))], [.int (nI (sd (2 ^ n - 1) s)), .ref 5], MW A B F sw, 0, 0)) 7 rfl ?_
  refine wp_iald rfl rfl (by omega) (by decide) ?_
  rw [(hR (sd (2 ^ n - 1) s) (by omega)).2.1]
  refine wp_go (f' := ((if ¬ (nI (inN nb (sd (2 ^ n - 1) s))) = 0 then 100 else 96), [.ref 23, .int (nI 2), .int (nI s), .int (nI (sd (2 ^ n - 1) s))], [], MW A B F sw, 0, 0)) 1 rfl ?_
  refine wp_ite (fun h1 => ?_) (fun h1 => ?_)
  · have h1 : ¬ (inN nb (sd (2 ^ n - 1) s) = 0) := fun h9 => h1 ((nI_eq (a := inN nb (sd (2 ^ n - 1) s)) (b := 0) (by omega) (by omega)).mpr h9)
    refine wp_go (f' := (101, [.ref 23, .int (nI 2), .int (nI s), .int (nI (sd (2 ^ n - 1) s))], [.int (nI 0)], MW A B F sw, 0, 0)) 1 rfl ?_
    rw [show bI (decide (inN nb (sd (2 ^ n - 1) s) = 0)) = nI 0 by simp [h1, bIT, bIF, nI1, nI0]]
    exact wp_zret rfl (by first | exact Or.inl rfl | exact Or.inr rfl)
  · have h1 := Classical.not_not.mp h1; have h1 : inN nb (sd (2 ^ n - 1) s) = 0 := (nI_eq (a := inN nb (sd (2 ^ n - 1) s)) (b := 0) (by omega) (by omega)).mp h1
    refine wp_go (f' := (101, [.ref 23, .int (nI 2), .int (nI s), .int (nI (sd (2 ^ n - 1) s))], [.int (nI 1)], MW A B F sw, 0, 0)) 2 rfl ?_
    rw [show bI (decide (inN nb (sd (2 ^ n - 1) s) = 0)) = nI 1 by simp [h1, bIT, bIF, nI1, nI0]]
    exact wp_zret rfl (by first | exact Or.inl rfl | exact Or.inr rfl)
theorem ev_fSuch3 (hC : CI A F n nb) (hR : RI A n nb) {s : Nat} (hs : s < 2 ^ n) : mv_Ev xs Ls 3 78 [.ref 23, .int (nI 3), .int (nI s)] (MW A B F sw) (some (.int (bI (suchN n nb 3 s))), MW A B F sw, 0, 0) := by
  refine ev_of_wp rfl rfl rfl ?_
  have hn := hC.1
  have hp := pow10 hn
  have hp1 : 1 ≤ 2 ^ n := Nat.one_le_two_pow
  have hal := all_lt hn
  have hsl : sd (2 ^ n - 1) s < 2 ^ n := by have h9 := sd_le (a := 2 ^ n - 1) (b := s); omega
  have hin1 := in_le (nb := nb) s (by omega)
  have hin2 := in_le (nb := nb) (sd (2 ^ n - 1) s) (by omega)
  have hss : sd (sd (2 ^ n - 1) s) (rcN nb s) < 1024 := sd_lt (by omega)
  show mv_Wp _ _ _ _ _ _ _ _ (some (.int (bI (cclN n nb s))), _, _, _)
  refine wp_go (f' := (4, [.ref 23, .int (nI 3), .int (nI s), .retAddr 0], [.ref 1], MW A B F sw, 0, 0)) 2 rfl ?_
  refine wp_call rfl rfl rfl (ev_up (ev_gAll hC) (by decide)) ?_
  refine wp_eq (f' := (7, [.ref 23, .int (nI 3), .int (nI s), .retAddr 0], [.int (nI (2 ^ n - 1))], MW A B F sw, 0, 0)) rfl ?_
  refine wp_go (f' := (11, [.ref 23, .int (nI 3), .int (nI s), .retAddr 0], [.int ((nI (2 ^ n - 1)) &&& ((nI s) ^^^ (-1)))], MW A B F sw, 0, 0)) 4 rfl ?_
  rw [bx_sd (by omega)]
  refine wp_go (f' := (104, [.ref 23, .int (nI 3), .int (nI s), .int (nI (sd (2 ^ n - 1) s))], [.int (nI s), .ref 23], MW A B F sw, 0, 0)) 5 rfl ?_
  refine wp_call rfl rfl rfl (ev_up (ev_fClique hC (s := s) (by omega)) (by decide)) ?_
  refine wp_eq (f' := (107, [.ref 23, .int (nI 3), .int (nI s), .int (nI (sd (2 ^ n - 1) s))], [.int (bI (cclN n nb s))], MW A B F sw, 0, 0)) rfl ?_
  exact wp_zret rfl (bI_01 _)
theorem ev_fSuch4 (hC : CI A F n nb) (hR : RI A n nb) {s : Nat} (hs : s < 2 ^ n) : mv_Ev xs Ls 3 78 [.ref 23, .int (nI 4), .int (nI s)] (MW A B F sw) (some (.int (bI (suchN n nb 4 s))), MW A B F sw, 0, 0) := by
  refine ev_of_wp rfl rfl rfl ?_
  have hn := hC.1
  have hp := pow10 hn
  have hp1 : 1 ≤ 2 ^ n := Nat.one_le_two_pow
  have hal := all_lt hn
  have hsl : sd (2 ^ n - 1) s < 2 ^ n := by have h9 := sd_le (a := 2 ^ n - 1) (b := s); omega
  have hin1 := in_le (nb := nb) s (by omega)
  have hin2 := in_le (nb := nb) (sd (2 ^ n - 1) s) (by omega)
  have hss : sd (sd (2 ^ n - 1) s) (rcN nb s) < 1024 := sd_lt (by omega)
  show mv_Wp _ _ _ _ _ _ _ _ (some (.int (bI (decide (pcN nb (sd (2 ^ n - 1) s) = sd (2 ^ n - 1) s) && (decide (¬ sd (2 ^ n - 1) s = 0) || decide (n = 0))))), _, _, _)
  refine wp_go (f' := (4, [.ref 23, .int (nI 4), .int (nI s), .retAddr 0], [.ref 1], MW A B F sw, 0, 0)) 2 rfl ?_
  refine wp_call rfl rfl rfl (ev_up (ev_gAll hC) (by decide)) ?_
  refine wp_eq (f' := (7, [.ref 23, .int (nI 4), .int (nI s), .retAddr 0], [.int (nI (2 ^ n - 1))], MW A B F sw, 0, 0)) rfl ?_
  refine wp_go (f' := (11, [.ref 23, .int (nI 4), .int (nI s), .retAddr 0], [.int ((nI (2 ^ n - 1)) &&& ((nI s) ^^^ (-1)))], MW A B F sw, 0, 0)) 4 rfl ?_
  rw [bx_sd (by omega)]
  refine wp_go (f' := (113, [.ref 23, .int (nI 4), .int (nI s), .int (nI (sd (2 ^ n - 1) s))], [.int (nI (sd (2 ^ n - 1) s)), .ref 1], MW A B F sw, 0, 0)) 6 rfl ?_
  refine wp_call rfl rfl rfl (ev_up (ev_gHangs hC hR (s := sd (2 ^ n - 1) s) (by omega)) (by decide)) ?_
  refine wp_eq (f' := (116, [.ref 23, .int (nI 4), .int (nI s), .int (nI (sd (2 ^ n - 1) s))], [.int (bI (decide (pcN nb (sd (2 ^ n - 1) s) = sd (2 ^ n - 1) s)))], MW A B F sw, 0, 0)) rfl ?_
  refine wp_go (f' := ((if (bI (decide (pcN nb (sd (2 ^ n - 1) s) = sd (2 ^ n - 1) s))) = 0 then 137 else 119), [.ref 23, .int (nI 4), .int (nI s), .int (nI (sd (2 ^ n - 1) s))], [], MW A B F sw, 0, 0)) 1 rfl ?_
  refine wp_ite (fun h1 => ?_) (fun h1 => ?_)
  · have h1 := bI_0.mp h1
    refine wp_go (f' := (138, [.ref 23, .int (nI 4), .int (nI s), .int (nI (sd (2 ^ n - 1) s))], [.int (nI 0)], MW A B F sw, 0, 0)) 1 rfl ?_
    rw [show bI (decide (pcN nb (sd (2 ^ n - 1) s) = sd (2 ^ n - 1) s) && (decide (¬ sd (2 ^ n - 1) s = 0) || decide (n = 0))) = nI 0 by rw [h1]; simp [bIT, bIF, nI1, nI0]]
    exact wp_zret rfl (by first | exact Or.inl rfl | exact Or.inr rfl)
  · have h1 := bI_n0 h1
    refine wp_go (f' := ((if ¬ (nI (sd (2 ^ n - 1) s)) = 0 then 133 else 123), [.ref 23, .int (nI 4), .int (nI s), .int (nI (sd (2 ^ n - 1) s))], [], MW A B F sw, 0, 0)) 2 rfl ?_
    refine wp_ite (fun h2 => ?_) (fun h2 => ?_)
    · have h2 : ¬ (sd (2 ^ n - 1) s = 0) := fun h9 => h2 ((nI_eq (a := sd (2 ^ n - 1) s) (b := 0) (by omega) (by omega)).mpr h9)
      refine wp_go (f' := (138, [.ref 23, .int (nI 4), .int (nI s), .int (nI (sd (2 ^ n - 1) s))], [.int (nI 1)], MW A B F sw, 0, 0)) 2 rfl ?_
      rw [show bI (decide (pcN nb (sd (2 ^ n - 1) s) = sd (2 ^ n - 1) s) && (decide (¬ sd (2 ^ n - 1) s = 0) || decide (n = 0))) = nI 1 by rw [h1]; simp [h2, bIT, bIF, nI1, nI0]]
      exact wp_zret rfl (by first | exact Or.inl rfl | exact Or.inr rfl)
    · have h2 := Classical.not_not.mp h2; have h2 : sd (2 ^ n - 1) s = 0 := (nI_eq (a := sd (2 ^ n - 1) s) (b := 0) (by omega) (by omega)).mp h2
      refine wp_go (f' := (130, [.ref 23, .int (nI 4), .int (nI s), .int (nI (sd (2 ^ n - 1) s))], [.int (F 0)], MW A B F sw, 0, 0)) 3 rfl ?_
      rw [hC.2.1]
      refine wp_go (f' := ((if ¬ (nI n) = 0 then 137 else 133), [.ref 23, .int (nI 4), .int (nI s), .int (nI (sd (2 ^ n - 1) s))], [], MW A B F sw, 0, 0)) 1 rfl ?_
      refine wp_ite (fun h3 => ?_) (fun h3 => ?_)
      · have h3 : ¬ (n = 0) := fun h9 => h3 ((nI_eq (a := n) (b := 0) (by omega) (by omega)).mpr h9)
        refine wp_go (f' := (138, [.ref 23, .int (nI 4), .int (nI s), .int (nI (sd (2 ^ n - 1) s))], [.int (nI 0)], MW A B F sw, 0, 0)) 1 rfl ?_
        rw [show bI (decide (pcN nb (sd (2 ^ n - 1) s) = sd (2 ^ n - 1) s) && (decide (¬ sd (2 ^ n - 1) s = 0) || decide (n = 0))) = nI 0 by rw [h1]; simp [h2, h3, bIT, bIF, nI1, nI0]]
        exact wp_zret rfl (by first | exact Or.inl rfl | exact Or.inr rfl)
      · have h3 := Classical.not_not.mp h3; have h3 : n = 0 := (nI_eq (a := n) (b := 0) (by omega) (by omega)).mp h3
        refine wp_go (f' := (138, [.ref 23, .int (nI 4), .int (nI s), .int (nI (sd (2 ^ n - 1) s))], [.int (nI 1)], MW A B F sw, 0, 0)) 2 rfl ?_
        rw [show bI (decide (pcN nb (sd (2 ^ n - 1) s) = sd (2 ^ n - 1) s) && (decide (¬ sd (2 ^ n - 1) s = 0) || decide (n = 0))) = nI 1 by rw [h1]; simp [h2, h3, bIT, bIF, nI1, nI0]]
        exact wp_zret rfl (by first | exact Or.inl rfl | exact Or.inr rfl)
theorem lq_fBest0 (hC : CI A F n nb) (hR : RI A n nb) {wt : Nat → Nat} (hw : CWt A wt) : mv_Wp xs Ls 3 1 false (some .int) mv_c77 (7, [.ref 23, .int (nI 0), .retAddr 0, .retAddr 0, .retAddr 0, .retAddr 0, .retAddr 0, .retAddr 0], [], MW A B F sw, 0, 0) (some (.int ((cbsN (suchN n nb 0) (weightN n wt) false (2 ^ n)).1)), MW A B F sw, 0, 0) := by
  have hn := hC.1
  have hp := pow10 hn
  have hp1 : 1 ≤ 2 ^ n := Nat.one_le_two_pow
  have hal := all_lt hn
  refine wp_go (f' := ((if (nI 0) = (nI 1) then 17 else 12), [.ref 23, .int (nI 0), .retAddr 0, .retAddr 0, .retAddr 0, .retAddr 0, .retAddr 0, .retAddr 0], [], MW A B F sw, 0, 0)) 3 rfl ?_
  refine wp_ite (fun h9 => absurd h9 (by decide : ¬ nI 0 = nI 1)) (fun _ => ?_)
  refine wp_go (f' := ((if ¬ (nI 0) = (nI 2) then 21 else 17), [.ref 23, .int (nI 0), .retAddr 0, .retAddr 0, .retAddr 0, .retAddr 0, .retAddr 0, .retAddr 0], [], MW A B F sw, 0, 0)) 3 rfl ?_
  refine wp_ite (fun _ => ?_) (fun h9 => absurd (by decide : ¬ nI 0 = nI 2) h9)
  refine wp_go (f' := (32, [.ref 23, .int (nI 0), .int (nI 0), .int (-1), .int (nI 0), .retAddr 0, .retAddr 0, .retAddr 0], [.ref 1], MW A B F sw, 0, 0)) 8 rfl ?_
  refine wp_call rfl rfl rfl (ev_up (ev_gAll hC) (by decide)) ?_
  refine wp_eq (f' := (35, [.ref 23, .int (nI 0), .int (nI 0), .int (-1), .int (nI 0), .retAddr 0, .retAddr 0, .retAddr 0], [.int (nI (2 ^ n - 1))], MW A B F sw, 0, 0)) rfl ?_
  refine wp_go (f' := (40, [.ref 23, .int (nI 0), .int (nI 0), .int (-1), .int (nI 0), .int (nI (2 ^ n - 1)), .int (nI 0), .retAddr 0], [], MW A B F sw, 0, 0)) 3 rfl ?_
  refine for_ind (P := fun (k : Nat) (q : Int32 × Int32) => ∀ (d7 : Value), mv_Wp xs Ls 3 1 false (some .int) mv_c77 (40, [.ref 23, .int (nI 0), .int (nI 0), .int q.1, .int q.2, .int (nI (2 ^ n - 1)), .int (nI k), d7], [], MW A B F sw, 0, 0) (some (.int ((cbsN (suchN n nb 0) (weightN n wt) false (2 ^ n)).1)), MW A B F sw, 0, 0)) (f := cbsS (suchN n nb 0) (weightN n wt) false) (n := (2 ^ n)) ?_ (2 ^ n) ((-1 : Int32), (nI 0 : Int32)) (Nat.le_refl _) ?_  (.retAddr 0)
  · intro k q hk ih  d7
    refine wp_go (f' := ((if (nI (2 ^ n - 1)) < (nI k) then 110 else 47), [.ref 23, .int (nI 0), .int (nI 0), .int q.1, .int q.2, .int (nI (2 ^ n - 1)), .int (nI k), d7], [], MW A B F sw, 0, 0)) 3 rfl ?_
    refine wp_ite (fun h9 => absurd h9 (nI_nlt (by omega) (by omega))) (fun _ => ?_)
    refine wp_go (f' := (51, [.ref 23, .int (nI 0), .int (nI 0), .int q.1, .int q.2, .int (nI (2 ^ n - 1)), .int (nI k), d7], [.int (nI k), .int (nI 0), .ref 23], MW A B F sw, 0, 0)) 3 rfl ?_
    refine wp_call rfl rfl rfl (ev_up (ev_fSuch0 hC hR (s := k) (by omega)) (by decide)) ?_
    refine wp_eq (f' := (54, [.ref 23, .int (nI 0), .int (nI 0), .int q.1, .int q.2, .int (nI (2 ^ n - 1)), .int (nI k), d7], [.int (bI (suchN n nb 0 k))], MW A B F sw, 0, 0)) rfl ?_
    refine wp_go (f' := ((if ¬ (bI (suchN n nb 0 k)) = 0 then 60 else 57), [.ref 23, .int (nI 0), .int (nI 0), .int q.1, .int q.2, .int (nI (2 ^ n - 1)), .int (nI k), d7], [], MW A B F sw, 0, 0)) 1 rfl ?_
    refine wp_ite (fun h1 => ?_) (fun h1 => ?_)
    · have h1 := bI_n0 h1
      refine wp_go (f' := (66, [.ref 23, .int (nI 0), .int (nI 0), .int q.1, .int q.2, .int (nI (2 ^ n - 1)), .int (nI k), d7], [.int (nI k), .ref 1], MW A B F sw, 0, 0)) 3 rfl ?_
      refine wp_call rfl rfl rfl (ev_up (ev_gWeight hC (s := k) (by omega) hw) (by decide)) ?_
      refine wp_eq (f' := (69, [.ref 23, .int (nI 0), .int (nI 0), .int q.1, .int q.2, .int (nI (2 ^ n - 1)), .int (nI k), d7], [.int (nI (weightN n wt k))], MW A B F sw, 0, 0)) rfl ?_
      refine wp_go (f' := ((if q.1 = (-1) then 97 else 76), [.ref 23, .int (nI 0), .int (nI 0), .int q.1, .int q.2, .int (nI (2 ^ n - 1)), .int (nI k), .int (nI (weightN n wt k))], [], MW A B F sw, 0, 0)) 4 rfl ?_
      refine wp_ite (fun h2 => ?_) (fun h2 => ?_)
      · skip
        refine wp_go (f' := (107, [.ref 23, .int (nI 0), .int (nI 0), .int (nI k), .int (nI (weightN n wt k)), .int (nI (2 ^ n - 1)), .int ((nI k) + 1), .int (nI (weightN n wt k))], [], MW A B F sw, 0, 0)) 5 rfl ?_
        rw [nI_1]
        refine wp_go (f' := (40, [.ref 23, .int (nI 0), .int (nI 0), .int (nI k), .int (nI (weightN n wt k)), .int (nI (2 ^ n - 1)), .int (nI (k + 1)), .int (nI (weightN n wt k))], [], MW A B F sw, 0, 0)) 1 rfl ?_
        refine wp_eq ?_ (ih (.int (nI (weightN n wt k))))
        simp [cbsS, h1, h2]
      · skip
        refine wp_go (f' := ((if (nI 0) = 0 then 90 else 80), [.ref 23, .int (nI 0), .int (nI 0), .int q.1, .int q.2, .int (nI (2 ^ n - 1)), .int (nI k), .int (nI (weightN n wt k))], [], MW A B F sw, 0, 0)) 2 rfl ?_
        refine wp_ite (fun _ => ?_) (fun h9 => absurd (rfl : nI 0 = 0) h9)
        refine wp_go (f' := ((if (nI (weightN n wt k)) ≤ q.2 then 104 else 97), [.ref 23, .int (nI 0), .int (nI 0), .int q.1, .int q.2, .int (nI (2 ^ n - 1)), .int (nI k), .int (nI (weightN n wt k))], [], MW A B F sw, 0, 0)) 3 rfl ?_
        refine wp_ite (fun h3 => ?_) (fun h3 => ?_)
        · skip
          refine wp_go (f' := (107, [.ref 23, .int (nI 0), .int (nI 0), .int q.1, .int q.2, .int (nI (2 ^ n - 1)), .int ((nI k) + 1), .int (nI (weightN n wt k))], [], MW A B F sw, 0, 0)) 1 rfl ?_
          rw [nI_1]
          refine wp_go (f' := (40, [.ref 23, .int (nI 0), .int (nI 0), .int q.1, .int q.2, .int (nI (2 ^ n - 1)), .int (nI (k + 1)), .int (nI (weightN n wt k))], [], MW A B F sw, 0, 0)) 1 rfl ?_
          refine wp_eq ?_ (ih (.int (nI (weightN n wt k))))
          simp [cbsS, h1, h2, Int32.not_lt.mpr h3]
        · skip
          refine wp_go (f' := (107, [.ref 23, .int (nI 0), .int (nI 0), .int (nI k), .int (nI (weightN n wt k)), .int (nI (2 ^ n - 1)), .int ((nI k) + 1), .int (nI (weightN n wt k))], [], MW A B F sw, 0, 0)) 5 rfl ?_
          rw [nI_1]
          refine wp_go (f' := (40, [.ref 23, .int (nI 0), .int (nI 0), .int (nI k), .int (nI (weightN n wt k)), .int (nI (2 ^ n - 1)), .int (nI (k + 1)), .int (nI (weightN n wt k))], [], MW A B F sw, 0, 0)) 1 rfl ?_
          refine wp_eq ?_ (ih (.int (nI (weightN n wt k))))
          simp [cbsS, h1, h2, Int32.not_le.mp h3]
    · have h1 := Classical.not_not.mp h1; have h1 := bI_0.mp h1
      refine wp_go (f' := (107, [.ref 23, .int (nI 0), .int (nI 0), .int q.1, .int q.2, .int (nI (2 ^ n - 1)), .int ((nI k) + 1), d7], [], MW A B F sw, 0, 0)) 2 rfl ?_
      rw [nI_1]
      refine wp_go (f' := (40, [.ref 23, .int (nI 0), .int (nI 0), .int q.1, .int q.2, .int (nI (2 ^ n - 1)), .int (nI (k + 1)), d7], [], MW A B F sw, 0, 0)) 1 rfl ?_
      refine wp_eq ?_ (ih d7)
      simp [cbsS, h1]
  · intro  d7
    refine wp_go (f' := ((if (nI (2 ^ n - 1)) < (nI (2 ^ n)) then 110 else 47), [.ref 23, .int (nI 0), .int (nI 0), .int ((cbsN (suchN n nb 0) (weightN n wt) false (2 ^ n)).1), .int ((cbsN (suchN n nb 0) (weightN n wt) false (2 ^ n)).2), .int (nI (2 ^ n - 1)), .int (nI (2 ^ n)), d7], [], MW A B F sw, 0, 0)) 3 rfl ?_
    refine wp_ite (fun _ => ?_) (fun h9 => absurd (nI_lt (by omega) (by omega)) h9)
    refine wp_go (f' := (111, [.ref 23, .int (nI 0), .int (nI 0), .int ((cbsN (suchN n nb 0) (weightN n wt) false (2 ^ n)).1), .int ((cbsN (suchN n nb 0) (weightN n wt) false (2 ^ n)).2), .int (nI (2 ^ n - 1)), .int (nI (2 ^ n)), d7], [.int ((cbsN (suchN n nb 0) (weightN n wt) false (2 ^ n)).1)], MW A B F sw, 0, 0)) 1 rfl ?_
    exact wp_iret rfl
theorem ev_fBest0 (hC : CI A F n nb) (hZ : CZ A) (hco : F 3 = F 2 → RI A n nb) {wt : Nat → Nat} (hw : CWt A wt) : ∃ r4 r5 r6 : Nat → Int32, mv_Ev xs Ls 4 77 [.ref 23, .int (nI 0)] (MW A B F sw) (some (.int ((cbsN (suchN n nb 0) (weightN n wt) false (2 ^ n)).1)), MW (upA (upA (upA A 4 r4) 5 r5) 6 r6) B (upF F 3 (F 2)) sw, 0, 0) ∧ RI (upA (upA (upA A 4 r4) 5 r5) 6 r6) n nb ∧ CZ (upA (upA (upA A 4 r4) 5 r5) 6 r6) := by
  obtain ⟨r4, r5, r6, hev, hR, hZ2⟩ := ev_rows_any (xs := xs) (Ls := Ls) (B := B) (sw := sw) hC hZ hco
  refine ⟨r4, r5, r6, ?_, hR, hZ2⟩
  refine ev_of_wp rfl rfl rfl ?_
  refine wp_go (f' := (4, [.ref 23, .int (nI 0), .retAddr 0, .retAddr 0, .retAddr 0, .retAddr 0, .retAddr 0, .retAddr 0], [.ref 1], MW A B F sw, 0, 0)) 2 rfl ?_
  refine wp_call rfl rfl rfl (ev_up hev (by decide)) ?_
  exact lq_fBest0 (A := (upA (upA (upA A 4 r4) 5 r5) 6 r6)) (F := upF F 3 (F 2)) hC hR hw
theorem ev_bWhich0 (hC : CI A F n nb) (hZ : CZ A) (hco : F 3 = F 2 → RI A n nb) {wt : Nat → Nat} (hw : CWt A wt) : ∃ r4 r5 r6 : Nat → Int32, mv_Ev xs Ls 5 80 [.ref 0, .int (nI 0)] (MW A B F sw) (some (.int ((cbsN (suchN n nb 0) (weightN n wt) false (2 ^ n)).1)), MW (upA (upA (upA A 4 r4) 5 r5) 6 r6) B (upF F 3 (F 2)) sw, 0, 0) ∧ RI (upA (upA (upA A 4 r4) 5 r5) 6 r6) n nb ∧ CZ (upA (upA (upA A 4 r4) 5 r5) 6 r6) := by
  obtain ⟨r4, r5, r6, hev, hR, hZ2⟩ := ev_fBest0 (xs := xs) (Ls := Ls) (B := B) (sw := sw) hC hZ hco hw
  refine ⟨r4, r5, r6, ?_, hR, hZ2⟩
  refine ev_of_wp rfl rfl rfl ?_
  refine wp_go (f' := (19, [.ref 0, .int (nI 0)], [.int (nI 0), .ref 23], MW A B F sw, 0, 0)) 8 rfl ?_
  refine wp_call rfl rfl rfl (ev_up hev (by decide)) ?_
  exact wp_iret rfl
theorem ev_bBest0 (hC : CI A F n nb) (hZ : CZ A) (hco : F 3 = F 2 → RI A n nb) {wt : Nat → Nat} (hw : CWt A wt) : ∃ r4 r5 r6 : Nat → Int32, mv_Ev xs Ls 5 76 [.ref 0, .int (nI 0)] (MW A B F sw) (some (.int (cbwN (cbsN (suchN n nb 0) (weightN n wt) false (2 ^ n)))), MW (upA (upA (upA A 4 r4) 5 r5) 6 r6) B (upF F 3 (F 2)) sw, 0, 0) ∧ RI (upA (upA (upA A 4 r4) 5 r5) 6 r6) n nb ∧ CZ (upA (upA (upA A 4 r4) 5 r5) 6 r6) := by
  have hn := hC.1
  have hp := pow10 hn
  obtain ⟨r4, r5, r6, hev, hR, hZ2⟩ := ev_fBest0 (xs := xs) (Ls := Ls) (B := B) (sw := sw) hC hZ hco hw
  refine ⟨r4, r5, r6, ?_, hR, hZ2⟩
  refine ev_of_wp rfl rfl rfl ?_
  refine wp_go (f' := (17, [.ref 0, .int (nI 0), .retAddr 0], [.int (nI 0), .ref 23], MW A B F sw, 0, 0)) 8 rfl ?_
  refine wp_call rfl rfl rfl (ev_up hev (by decide)) ?_
  rcases cbs_ok (G := suchN n nb 0) (W := weightN n wt) (least := false) (2 ^ n) with h | ⟨t, ht, e⟩
  · rw [show cbwN (cbsN (suchN n nb 0) (weightN n wt) false (2 ^ n)) = -1 by unfold cbwN; rw [if_pos h], h]
    refine wp_go (f' := (38, [.ref 0, .int (nI 0), .int (-1)], [.int (-1)], MW (upA (upA (upA A 4 r4) 5 r5) 6 r6) B (upF F 3 (F 2)) sw, 0, 0)) 6 rfl ?_
    exact wp_iret rfl
  · have hne : ¬ nI t = -1 := nI_n1 (by omega)
    rw [show cbwN (cbsN (suchN n nb 0) (weightN n wt) false (2 ^ n)) = nI (weightN n wt t) by unfold cbwN; rw [e]; exact if_neg hne, e]
    refine wp_go (f' := ((if ¬ nI t = -1 then 30 else 26), [.ref 0, .int (nI 0), .int (nI t)], [], MW (upA (upA (upA A 4 r4) 5 r5) 6 r6) B (upF F 3 (F 2)) sw, 0, 0)) 4 rfl ?_
    refine wp_ite (fun _ => ?_) (fun h9 => absurd hne h9)
    refine wp_go (f' := (35, [.ref 0, .int (nI 0), .int (nI t)], [.int (nI t), .ref 1], MW (upA (upA (upA A 4 r4) 5 r5) 6 r6) B (upF F 3 (F 2)) sw, 0, 0)) 3 rfl ?_
    refine wp_call rfl rfl rfl (ev_up (ev_gWeight (A := (upA (upA (upA A 4 r4) 5 r5) 6 r6)) (F := upF F 3 (F 2)) (nb := nb) hC (by omega) hw) (by decide)) ?_
    exact wp_iret rfl
theorem lq_fBest1 (hC : CI A F n nb) (hR : RI A n nb) {wt : Nat → Nat} (hw : CWt A wt) : mv_Wp xs Ls 3 1 false (some .int) mv_c77 (7, [.ref 23, .int (nI 1), .retAddr 0, .retAddr 0, .retAddr 0, .retAddr 0, .retAddr 0, .retAddr 0], [], MW A B F sw, 0, 0) (some (.int ((cbsN (suchN n nb 1) (weightN n wt) true (2 ^ n)).1)), MW A B F sw, 0, 0) := by
  have hn := hC.1
  have hp := pow10 hn
  have hp1 : 1 ≤ 2 ^ n := Nat.one_le_two_pow
  have hal := all_lt hn
  refine wp_go (f' := ((if (nI 1) = (nI 1) then 17 else 12), [.ref 23, .int (nI 1), .retAddr 0, .retAddr 0, .retAddr 0, .retAddr 0, .retAddr 0, .retAddr 0], [], MW A B F sw, 0, 0)) 3 rfl ?_
  refine wp_ite (fun _ => ?_) (fun h9 => absurd (rfl : nI 1 = nI 1) h9)
  refine wp_go (f' := (32, [.ref 23, .int (nI 1), .int (nI 1), .int (-1), .int (nI 0), .retAddr 0, .retAddr 0, .retAddr 0], [.ref 1], MW A B F sw, 0, 0)) 9 rfl ?_
  refine wp_call rfl rfl rfl (ev_up (ev_gAll hC) (by decide)) ?_
  refine wp_eq (f' := (35, [.ref 23, .int (nI 1), .int (nI 1), .int (-1), .int (nI 0), .retAddr 0, .retAddr 0, .retAddr 0], [.int (nI (2 ^ n - 1))], MW A B F sw, 0, 0)) rfl ?_
  refine wp_go (f' := (40, [.ref 23, .int (nI 1), .int (nI 1), .int (-1), .int (nI 0), .int (nI (2 ^ n - 1)), .int (nI 0), .retAddr 0], [], MW A B F sw, 0, 0)) 3 rfl ?_
  refine for_ind (P := fun (k : Nat) (q : Int32 × Int32) => ∀ (d7 : Value), mv_Wp xs Ls 3 1 false (some .int) mv_c77 (40, [.ref 23, .int (nI 1), .int (nI 1), .int q.1, .int q.2, .int (nI (2 ^ n - 1)), .int (nI k), d7], [], MW A B F sw, 0, 0) (some (.int ((cbsN (suchN n nb 1) (weightN n wt) true (2 ^ n)).1)), MW A B F sw, 0, 0)) (f := cbsS (suchN n nb 1) (weightN n wt) true) (n := (2 ^ n)) ?_ (2 ^ n) ((-1 : Int32), (nI 0 : Int32)) (Nat.le_refl _) ?_  (.retAddr 0)
  · intro k q hk ih  d7
    refine wp_go (f' := ((if (nI (2 ^ n - 1)) < (nI k) then 110 else 47), [.ref 23, .int (nI 1), .int (nI 1), .int q.1, .int q.2, .int (nI (2 ^ n - 1)), .int (nI k), d7], [], MW A B F sw, 0, 0)) 3 rfl ?_
    refine wp_ite (fun h9 => absurd h9 (nI_nlt (by omega) (by omega))) (fun _ => ?_)
    refine wp_go (f' := (51, [.ref 23, .int (nI 1), .int (nI 1), .int q.1, .int q.2, .int (nI (2 ^ n - 1)), .int (nI k), d7], [.int (nI k), .int (nI 1), .ref 23], MW A B F sw, 0, 0)) 3 rfl ?_
    refine wp_call rfl rfl rfl (ev_up (ev_fSuch1 hC hR (s := k) (by omega)) (by decide)) ?_
    refine wp_eq (f' := (54, [.ref 23, .int (nI 1), .int (nI 1), .int q.1, .int q.2, .int (nI (2 ^ n - 1)), .int (nI k), d7], [.int (bI (suchN n nb 1 k))], MW A B F sw, 0, 0)) rfl ?_
    refine wp_go (f' := ((if ¬ (bI (suchN n nb 1 k)) = 0 then 60 else 57), [.ref 23, .int (nI 1), .int (nI 1), .int q.1, .int q.2, .int (nI (2 ^ n - 1)), .int (nI k), d7], [], MW A B F sw, 0, 0)) 1 rfl ?_
    refine wp_ite (fun h1 => ?_) (fun h1 => ?_)
    · have h1 := bI_n0 h1
      refine wp_go (f' := (66, [.ref 23, .int (nI 1), .int (nI 1), .int q.1, .int q.2, .int (nI (2 ^ n - 1)), .int (nI k), d7], [.int (nI k), .ref 1], MW A B F sw, 0, 0)) 3 rfl ?_
      refine wp_call rfl rfl rfl (ev_up (ev_gWeight hC (s := k) (by omega) hw) (by decide)) ?_
      refine wp_eq (f' := (69, [.ref 23, .int (nI 1), .int (nI 1), .int q.1, .int q.2, .int (nI (2 ^ n - 1)), .int (nI k), d7], [.int (nI (weightN n wt k))], MW A B F sw, 0, 0)) rfl ?_
      refine wp_go (f' := ((if q.1 = (-1) then 97 else 76), [.ref 23, .int (nI 1), .int (nI 1), .int q.1, .int q.2, .int (nI (2 ^ n - 1)), .int (nI k), .int (nI (weightN n wt k))], [], MW A B F sw, 0, 0)) 4 rfl ?_
      refine wp_ite (fun h2 => ?_) (fun h2 => ?_)
      · skip
        refine wp_go (f' := (107, [.ref 23, .int (nI 1), .int (nI 1), .int (nI k), .int (nI (weightN n wt k)), .int (nI (2 ^ n - 1)), .int ((nI k) + 1), .int (nI (weightN n wt k))], [], MW A B F sw, 0, 0)) 5 rfl ?_
        rw [nI_1]
        refine wp_go (f' := (40, [.ref 23, .int (nI 1), .int (nI 1), .int (nI k), .int (nI (weightN n wt k)), .int (nI (2 ^ n - 1)), .int (nI (k + 1)), .int (nI (weightN n wt k))], [], MW A B F sw, 0, 0)) 1 rfl ?_
        refine wp_eq ?_ (ih (.int (nI (weightN n wt k))))
        simp [cbsS, h1, h2]
      · skip
        refine wp_go (f' := ((if (nI 1) = 0 then 90 else 80), [.ref 23, .int (nI 1), .int (nI 1), .int q.1, .int q.2, .int (nI (2 ^ n - 1)), .int (nI k), .int (nI (weightN n wt k))], [], MW A B F sw, 0, 0)) 2 rfl ?_
        refine wp_ite (fun h9 => absurd h9 (by decide : ¬ nI 1 = 0)) (fun _ => ?_)
        refine wp_go (f' := ((if q.2 ≤ (nI (weightN n wt k)) then 104 else 87), [.ref 23, .int (nI 1), .int (nI 1), .int q.1, .int q.2, .int (nI (2 ^ n - 1)), .int (nI k), .int (nI (weightN n wt k))], [], MW A B F sw, 0, 0)) 3 rfl ?_
        refine wp_ite (fun h3 => ?_) (fun h3 => ?_)
        · skip
          refine wp_go (f' := (107, [.ref 23, .int (nI 1), .int (nI 1), .int q.1, .int q.2, .int (nI (2 ^ n - 1)), .int ((nI k) + 1), .int (nI (weightN n wt k))], [], MW A B F sw, 0, 0)) 1 rfl ?_
          rw [nI_1]
          refine wp_go (f' := (40, [.ref 23, .int (nI 1), .int (nI 1), .int q.1, .int q.2, .int (nI (2 ^ n - 1)), .int (nI (k + 1)), .int (nI (weightN n wt k))], [], MW A B F sw, 0, 0)) 1 rfl ?_
          refine wp_eq ?_ (ih (.int (nI (weightN n wt k))))
          simp [cbsS, h1, h2, Int32.not_lt.mpr h3]
        · skip
          refine wp_go (f' := (107, [.ref 23, .int (nI 1), .int (nI 1), .int (nI k), .int (nI (weightN n wt k)), .int (nI (2 ^ n - 1)), .int ((nI k) + 1), .int (nI (weightN n wt k))], [], MW A B F sw, 0, 0)) 6 rfl ?_
          rw [nI_1]
          refine wp_go (f' := (40, [.ref 23, .int (nI 1), .int (nI 1), .int (nI k), .int (nI (weightN n wt k)), .int (nI (2 ^ n - 1)), .int (nI (k + 1)), .int (nI (weightN n wt k))], [], MW A B F sw, 0, 0)) 1 rfl ?_
          refine wp_eq ?_ (ih (.int (nI (weightN n wt k))))
          simp [cbsS, h1, h2, Int32.not_le.mp h3]
    · have h1 := Classical.not_not.mp h1; have h1 := bI_0.mp h1
      refine wp_go (f' := (107, [.ref 23, .int (nI 1), .int (nI 1), .int q.1, .int q.2, .int (nI (2 ^ n - 1)), .int ((nI k) + 1), d7], [], MW A B F sw, 0, 0)) 2 rfl ?_
      rw [nI_1]
      refine wp_go (f' := (40, [.ref 23, .int (nI 1), .int (nI 1), .int q.1, .int q.2, .int (nI (2 ^ n - 1)), .int (nI (k + 1)), d7], [], MW A B F sw, 0, 0)) 1 rfl ?_
      refine wp_eq ?_ (ih d7)
      simp [cbsS, h1]
  · intro  d7
    refine wp_go (f' := ((if (nI (2 ^ n - 1)) < (nI (2 ^ n)) then 110 else 47), [.ref 23, .int (nI 1), .int (nI 1), .int ((cbsN (suchN n nb 1) (weightN n wt) true (2 ^ n)).1), .int ((cbsN (suchN n nb 1) (weightN n wt) true (2 ^ n)).2), .int (nI (2 ^ n - 1)), .int (nI (2 ^ n)), d7], [], MW A B F sw, 0, 0)) 3 rfl ?_
    refine wp_ite (fun _ => ?_) (fun h9 => absurd (nI_lt (by omega) (by omega)) h9)
    refine wp_go (f' := (111, [.ref 23, .int (nI 1), .int (nI 1), .int ((cbsN (suchN n nb 1) (weightN n wt) true (2 ^ n)).1), .int ((cbsN (suchN n nb 1) (weightN n wt) true (2 ^ n)).2), .int (nI (2 ^ n - 1)), .int (nI (2 ^ n)), d7], [.int ((cbsN (suchN n nb 1) (weightN n wt) true (2 ^ n)).1)], MW A B F sw, 0, 0)) 1 rfl ?_
    exact wp_iret rfl
theorem ev_fBest1 (hC : CI A F n nb) (hZ : CZ A) (hco : F 3 = F 2 → RI A n nb) {wt : Nat → Nat} (hw : CWt A wt) : ∃ r4 r5 r6 : Nat → Int32, mv_Ev xs Ls 4 77 [.ref 23, .int (nI 1)] (MW A B F sw) (some (.int ((cbsN (suchN n nb 1) (weightN n wt) true (2 ^ n)).1)), MW (upA (upA (upA A 4 r4) 5 r5) 6 r6) B (upF F 3 (F 2)) sw, 0, 0) ∧ RI (upA (upA (upA A 4 r4) 5 r5) 6 r6) n nb ∧ CZ (upA (upA (upA A 4 r4) 5 r5) 6 r6) := by
  obtain ⟨r4, r5, r6, hev, hR, hZ2⟩ := ev_rows_any (xs := xs) (Ls := Ls) (B := B) (sw := sw) hC hZ hco
  refine ⟨r4, r5, r6, ?_, hR, hZ2⟩
  refine ev_of_wp rfl rfl rfl ?_
  refine wp_go (f' := (4, [.ref 23, .int (nI 1), .retAddr 0, .retAddr 0, .retAddr 0, .retAddr 0, .retAddr 0, .retAddr 0], [.ref 1], MW A B F sw, 0, 0)) 2 rfl ?_
  refine wp_call rfl rfl rfl (ev_up hev (by decide)) ?_
  exact lq_fBest1 (A := (upA (upA (upA A 4 r4) 5 r5) 6 r6)) (F := upF F 3 (F 2)) hC hR hw
theorem ev_bWhich1 (hC : CI A F n nb) (hZ : CZ A) (hco : F 3 = F 2 → RI A n nb) {wt : Nat → Nat} (hw : CWt A wt) : ∃ r4 r5 r6 : Nat → Int32, mv_Ev xs Ls 5 80 [.ref 0, .int (nI 1)] (MW A B F sw) (some (.int ((cbsN (suchN n nb 1) (weightN n wt) true (2 ^ n)).1)), MW (upA (upA (upA A 4 r4) 5 r5) 6 r6) B (upF F 3 (F 2)) sw, 0, 0) ∧ RI (upA (upA (upA A 4 r4) 5 r5) 6 r6) n nb ∧ CZ (upA (upA (upA A 4 r4) 5 r5) 6 r6) := by
  obtain ⟨r4, r5, r6, hev, hR, hZ2⟩ := ev_fBest1 (xs := xs) (Ls := Ls) (B := B) (sw := sw) hC hZ hco hw
  refine ⟨r4, r5, r6, ?_, hR, hZ2⟩
  refine ev_of_wp rfl rfl rfl ?_
  refine wp_go (f' := (19, [.ref 0, .int (nI 1)], [.int (nI 1), .ref 23], MW A B F sw, 0, 0)) 8 rfl ?_
  refine wp_call rfl rfl rfl (ev_up hev (by decide)) ?_
  exact wp_iret rfl
theorem ev_bBest1 (hC : CI A F n nb) (hZ : CZ A) (hco : F 3 = F 2 → RI A n nb) {wt : Nat → Nat} (hw : CWt A wt) : ∃ r4 r5 r6 : Nat → Int32, mv_Ev xs Ls 5 76 [.ref 0, .int (nI 1)] (MW A B F sw) (some (.int (cbwN (cbsN (suchN n nb 1) (weightN n wt) true (2 ^ n)))), MW (upA (upA (upA A 4 r4) 5 r5) 6 r6) B (upF F 3 (F 2)) sw, 0, 0) ∧ RI (upA (upA (upA A 4 r4) 5 r5) 6 r6) n nb ∧ CZ (upA (upA (upA A 4 r4) 5 r5) 6 r6) := by
  have hn := hC.1
  have hp := pow10 hn
  obtain ⟨r4, r5, r6, hev, hR, hZ2⟩ := ev_fBest1 (xs := xs) (Ls := Ls) (B := B) (sw := sw) hC hZ hco hw
  refine ⟨r4, r5, r6, ?_, hR, hZ2⟩
  refine ev_of_wp rfl rfl rfl ?_
  refine wp_go (f' := (17, [.ref 0, .int (nI 1), .retAddr 0], [.int (nI 1), .ref 23], MW A B F sw, 0, 0)) 8 rfl ?_
  refine wp_call rfl rfl rfl (ev_up hev (by decide)) ?_
  rcases cbs_ok (G := suchN n nb 1) (W := weightN n wt) (least := true) (2 ^ n) with h | ⟨t, ht, e⟩
  · rw [show cbwN (cbsN (suchN n nb 1) (weightN n wt) true (2 ^ n)) = -1 by unfold cbwN; rw [if_pos h], h]
    refine wp_go (f' := (38, [.ref 0, .int (nI 1), .int (-1)], [.int (-1)], MW (upA (upA (upA A 4 r4) 5 r5) 6 r6) B (upF F 3 (F 2)) sw, 0, 0)) 6 rfl ?_
    exact wp_iret rfl
  · have hne : ¬ nI t = -1 := nI_n1 (by omega)
    rw [show cbwN (cbsN (suchN n nb 1) (weightN n wt) true (2 ^ n)) = nI (weightN n wt t) by unfold cbwN; rw [e]; exact if_neg hne, e]
    refine wp_go (f' := ((if ¬ nI t = -1 then 30 else 26), [.ref 0, .int (nI 1), .int (nI t)], [], MW (upA (upA (upA A 4 r4) 5 r5) 6 r6) B (upF F 3 (F 2)) sw, 0, 0)) 4 rfl ?_
    refine wp_ite (fun _ => ?_) (fun h9 => absurd hne h9)
    refine wp_go (f' := (35, [.ref 0, .int (nI 1), .int (nI t)], [.int (nI t), .ref 1], MW (upA (upA (upA A 4 r4) 5 r5) 6 r6) B (upF F 3 (F 2)) sw, 0, 0)) 3 rfl ?_
    refine wp_call rfl rfl rfl (ev_up (ev_gWeight (A := (upA (upA (upA A 4 r4) 5 r5) 6 r6)) (F := upF F 3 (F 2)) (nb := nb) hC (by omega) hw) (by decide)) ?_
    exact wp_iret rfl
theorem lq_fBest2 (hC : CI A F n nb) (hR : RI A n nb) {wt : Nat → Nat} (hw : CWt A wt) : mv_Wp xs Ls 3 1 false (some .int) mv_c77 (7, [.ref 23, .int (nI 2), .retAddr 0, .retAddr 0, .retAddr 0, .retAddr 0, .retAddr 0, .retAddr 0], [], MW A B F sw, 0, 0) (some (.int ((cbsN (suchN n nb 2) (weightN n wt) true (2 ^ n)).1)), MW A B F sw, 0, 0) := by
  have hn := hC.1
  have hp := pow10 hn
  have hp1 : 1 ≤ 2 ^ n := Nat.one_le_two_pow
  have hal := all_lt hn
  refine wp_go (f' := ((if (nI 2) = (nI 1) then 17 else 12), [.ref 23, .int (nI 2), .retAddr 0, .retAddr 0, .retAddr 0, .retAddr 0, .retAddr 0, .retAddr 0], [], MW A B F sw, 0, 0)) 3 rfl ?_
  refine wp_ite (fun h9 => absurd h9 (by decide : ¬ nI 2 = nI 1)) (fun _ => ?_)
  refine wp_go (f' := ((if ¬ (nI 2) = (nI 2) then 21 else 17), [.ref 23, .int (nI 2), .retAddr 0, .retAddr 0, .retAddr 0, .retAddr 0, .retAddr 0, .retAddr 0], [], MW A B F sw, 0, 0)) 3 rfl ?_
  refine wp_ite (fun h9 => absurd h9 (by decide : ¬ ¬ nI 2 = nI 2)) (fun _ => ?_)
  refine wp_go (f' := (32, [.ref 23, .int (nI 2), .int (nI 1), .int (-1), .int (nI 0), .retAddr 0, .retAddr 0, .retAddr 0], [.ref 1], MW A B F sw, 0, 0)) 9 rfl ?_
  refine wp_call rfl rfl rfl (ev_up (ev_gAll hC) (by decide)) ?_
  refine wp_eq (f' := (35, [.ref 23, .int (nI 2), .int (nI 1), .int (-1), .int (nI 0), .retAddr 0, .retAddr 0, .retAddr 0], [.int (nI (2 ^ n - 1))], MW A B F sw, 0, 0)) rfl ?_
  refine wp_go (f' := (40, [.ref 23, .int (nI 2), .int (nI 1), .int (-1), .int (nI 0), .int (nI (2 ^ n - 1)), .int (nI 0), .retAddr 0], [], MW A B F sw, 0, 0)) 3 rfl ?_
  refine for_ind (P := fun (k : Nat) (q : Int32 × Int32) => ∀ (d7 : Value), mv_Wp xs Ls 3 1 false (some .int) mv_c77 (40, [.ref 23, .int (nI 2), .int (nI 1), .int q.1, .int q.2, .int (nI (2 ^ n - 1)), .int (nI k), d7], [], MW A B F sw, 0, 0) (some (.int ((cbsN (suchN n nb 2) (weightN n wt) true (2 ^ n)).1)), MW A B F sw, 0, 0)) (f := cbsS (suchN n nb 2) (weightN n wt) true) (n := (2 ^ n)) ?_ (2 ^ n) ((-1 : Int32), (nI 0 : Int32)) (Nat.le_refl _) ?_  (.retAddr 0)
  · intro k q hk ih  d7
    refine wp_go (f' := ((if (nI (2 ^ n - 1)) < (nI k) then 110 else 47), [.ref 23, .int (nI 2), .int (nI 1), .int q.1, .int q.2, .int (nI (2 ^ n - 1)), .int (nI k), d7], [], MW A B F sw, 0, 0)) 3 rfl ?_
    refine wp_ite (fun h9 => absurd h9 (nI_nlt (by omega) (by omega))) (fun _ => ?_)
    refine wp_go (f' := (51, [.ref 23, .int (nI 2), .int (nI 1), .int q.1, .int q.2, .int (nI (2 ^ n - 1)), .int (nI k), d7], [.int (nI k), .int (nI 2), .ref 23], MW A B F sw, 0, 0)) 3 rfl ?_
    refine wp_call rfl rfl rfl (ev_up (ev_fSuch2 hC hR (s := k) (by omega)) (by decide)) ?_
    refine wp_eq (f' := (54, [.ref 23, .int (nI 2), .int (nI 1), .int q.1, .int q.2, .int (nI (2 ^ n - 1)), .int (nI k), d7], [.int (bI (suchN n nb 2 k))], MW A B F sw, 0, 0)) rfl ?_
    refine wp_go (f' := ((if ¬ (bI (suchN n nb 2 k)) = 0 then 60 else 57), [.ref 23, .int (nI 2), .int (nI 1), .int q.1, .int q.2, .int (nI (2 ^ n - 1)), .int (nI k), d7], [], MW A B F sw, 0, 0)) 1 rfl ?_
    refine wp_ite (fun h1 => ?_) (fun h1 => ?_)
    · have h1 := bI_n0 h1
      refine wp_go (f' := (66, [.ref 23, .int (nI 2), .int (nI 1), .int q.1, .int q.2, .int (nI (2 ^ n - 1)), .int (nI k), d7], [.int (nI k), .ref 1], MW A B F sw, 0, 0)) 3 rfl ?_
      refine wp_call rfl rfl rfl (ev_up (ev_gWeight hC (s := k) (by omega) hw) (by decide)) ?_
      refine wp_eq (f' := (69, [.ref 23, .int (nI 2), .int (nI 1), .int q.1, .int q.2, .int (nI (2 ^ n - 1)), .int (nI k), d7], [.int (nI (weightN n wt k))], MW A B F sw, 0, 0)) rfl ?_
      refine wp_go (f' := ((if q.1 = (-1) then 97 else 76), [.ref 23, .int (nI 2), .int (nI 1), .int q.1, .int q.2, .int (nI (2 ^ n - 1)), .int (nI k), .int (nI (weightN n wt k))], [], MW A B F sw, 0, 0)) 4 rfl ?_
      refine wp_ite (fun h2 => ?_) (fun h2 => ?_)
      · skip
        refine wp_go (f' := (107, [.ref 23, .int (nI 2), .int (nI 1), .int (nI k), .int (nI (weightN n wt k)), .int (nI (2 ^ n - 1)), .int ((nI k) + 1), .int (nI (weightN n wt k))], [], MW A B F sw, 0, 0)) 5 rfl ?_
        rw [nI_1]
        refine wp_go (f' := (40, [.ref 23, .int (nI 2), .int (nI 1), .int (nI k), .int (nI (weightN n wt k)), .int (nI (2 ^ n - 1)), .int (nI (k + 1)), .int (nI (weightN n wt k))], [], MW A B F sw, 0, 0)) 1 rfl ?_
        refine wp_eq ?_ (ih (.int (nI (weightN n wt k))))
        simp [cbsS, h1, h2]
      · skip
        refine wp_go (f' := ((if (nI 1) = 0 then 90 else 80), [.ref 23, .int (nI 2), .int (nI 1), .int q.1, .int q.2, .int (nI (2 ^ n - 1)), .int (nI k), .int (nI (weightN n wt k))], [], MW A B F sw, 0, 0)) 2 rfl ?_
        refine wp_ite (fun h9 => absurd h9 (by decide : ¬ nI 1 = 0)) (fun _ => ?_)
        refine wp_go (f' := ((if q.2 ≤ (nI (weightN n wt k)) then 104 else 87), [.ref 23, .int (nI 2), .int (nI 1), .int q.1, .int q.2, .int (nI (2 ^ n - 1)), .int (nI k), .int (nI (weightN n wt k))], [], MW A B F sw, 0, 0)) 3 rfl ?_
        refine wp_ite (fun h3 => ?_) (fun h3 => ?_)
        · skip
          refine wp_go (f' := (107, [.ref 23, .int (nI 2), .int (nI 1), .int q.1, .int q.2, .int (nI (2 ^ n - 1)), .int ((nI k) + 1), .int (nI (weightN n wt k))], [], MW A B F sw, 0, 0)) 1 rfl ?_
          rw [nI_1]
          refine wp_go (f' := (40, [.ref 23, .int (nI 2), .int (nI 1), .int q.1, .int q.2, .int (nI (2 ^ n - 1)), .int (nI (k + 1)), .int (nI (weightN n wt k))], [], MW A B F sw, 0, 0)) 1 rfl ?_
          refine wp_eq ?_ (ih (.int (nI (weightN n wt k))))
          simp [cbsS, h1, h2, Int32.not_lt.mpr h3]
        · skip
          refine wp_go (f' := (107, [.ref 23, .int (nI 2), .int (nI 1), .int (nI k), .int (nI (weightN n wt k)), .int (nI (2 ^ n - 1)), .int ((nI k) + 1), .int (nI (weightN n wt k))], [], MW A B F sw, 0, 0)) 6 rfl ?_
          rw [nI_1]
          refine wp_go (f' := (40, [.ref 23, .int (nI 2), .int (nI 1), .int (nI k), .int (nI (weightN n wt k)), .int (nI (2 ^ n - 1)), .int (nI (k + 1)), .int (nI (weightN n wt k))], [], MW A B F sw, 0, 0)) 1 rfl ?_
          refine wp_eq ?_ (ih (.int (nI (weightN n wt k))))
          simp [cbsS, h1, h2, Int32.not_le.mp h3]
    · have h1 := Classical.not_not.mp h1; have h1 := bI_0.mp h1
      refine wp_go (f' := (107, [.ref 23, .int (nI 2), .int (nI 1), .int q.1, .int q.2, .int (nI (2 ^ n - 1)), .int ((nI k) + 1), d7], [], MW A B F sw, 0, 0)) 2 rfl ?_
      rw [nI_1]
      refine wp_go (f' := (40, [.ref 23, .int (nI 2), .int (nI 1), .int q.1, .int q.2, .int (nI (2 ^ n - 1)), .int (nI (k + 1)), d7], [], MW A B F sw, 0, 0)) 1 rfl ?_
      refine wp_eq ?_ (ih d7)
      simp [cbsS, h1]
  · intro  d7
    refine wp_go (f' := ((if (nI (2 ^ n - 1)) < (nI (2 ^ n)) then 110 else 47), [.ref 23, .int (nI 2), .int (nI 1), .int ((cbsN (suchN n nb 2) (weightN n wt) true (2 ^ n)).1), .int ((cbsN (suchN n nb 2) (weightN n wt) true (2 ^ n)).2), .int (nI (2 ^ n - 1)), .int (nI (2 ^ n)), d7], [], MW A B F sw, 0, 0)) 3 rfl ?_
    refine wp_ite (fun _ => ?_) (fun h9 => absurd (nI_lt (by omega) (by omega)) h9)
    refine wp_go (f' := (111, [.ref 23, .int (nI 2), .int (nI 1), .int ((cbsN (suchN n nb 2) (weightN n wt) true (2 ^ n)).1), .int ((cbsN (suchN n nb 2) (weightN n wt) true (2 ^ n)).2), .int (nI (2 ^ n - 1)), .int (nI (2 ^ n)), d7], [.int ((cbsN (suchN n nb 2) (weightN n wt) true (2 ^ n)).1)], MW A B F sw, 0, 0)) 1 rfl ?_
    exact wp_iret rfl
theorem ev_fBest2 (hC : CI A F n nb) (hZ : CZ A) (hco : F 3 = F 2 → RI A n nb) {wt : Nat → Nat} (hw : CWt A wt) : ∃ r4 r5 r6 : Nat → Int32, mv_Ev xs Ls 4 77 [.ref 23, .int (nI 2)] (MW A B F sw) (some (.int ((cbsN (suchN n nb 2) (weightN n wt) true (2 ^ n)).1)), MW (upA (upA (upA A 4 r4) 5 r5) 6 r6) B (upF F 3 (F 2)) sw, 0, 0) ∧ RI (upA (upA (upA A 4 r4) 5 r5) 6 r6) n nb ∧ CZ (upA (upA (upA A 4 r4) 5 r5) 6 r6) := by
  obtain ⟨r4, r5, r6, hev, hR, hZ2⟩ := ev_rows_any (xs := xs) (Ls := Ls) (B := B) (sw := sw) hC hZ hco
  refine ⟨r4, r5, r6, ?_, hR, hZ2⟩
  refine ev_of_wp rfl rfl rfl ?_
  refine wp_go (f' := (4, [.ref 23, .int (nI 2), .retAddr 0, .retAddr 0, .retAddr 0, .retAddr 0, .retAddr 0, .retAddr 0], [.ref 1], MW A B F sw, 0, 0)) 2 rfl ?_
  refine wp_call rfl rfl rfl (ev_up hev (by decide)) ?_
  exact lq_fBest2 (A := (upA (upA (upA A 4 r4) 5 r5) 6 r6)) (F := upF F 3 (F 2)) hC hR hw
theorem ev_bWhich2 (hC : CI A F n nb) (hZ : CZ A) (hco : F 3 = F 2 → RI A n nb) {wt : Nat → Nat} (hw : CWt A wt) : ∃ r4 r5 r6 : Nat → Int32, mv_Ev xs Ls 5 80 [.ref 0, .int (nI 2)] (MW A B F sw) (some (.int ((cbsN (suchN n nb 2) (weightN n wt) true (2 ^ n)).1)), MW (upA (upA (upA A 4 r4) 5 r5) 6 r6) B (upF F 3 (F 2)) sw, 0, 0) ∧ RI (upA (upA (upA A 4 r4) 5 r5) 6 r6) n nb ∧ CZ (upA (upA (upA A 4 r4) 5 r5) 6 r6) := by
  obtain ⟨r4, r5, r6, hev, hR, hZ2⟩ := ev_fBest2 (xs := xs) (Ls := Ls) (B := B) (sw := sw) hC hZ hco hw
  refine ⟨r4, r5, r6, ?_, hR, hZ2⟩
  refine ev_of_wp rfl rfl rfl ?_
  refine wp_go (f' := (19, [.ref 0, .int (nI 2)], [.int (nI 2), .ref 23], MW A B F sw, 0, 0)) 8 rfl ?_
  refine wp_call rfl rfl rfl (ev_up hev (by decide)) ?_
  exact wp_iret rfl
theorem ev_bBest2 (hC : CI A F n nb) (hZ : CZ A) (hco : F 3 = F 2 → RI A n nb) {wt : Nat → Nat} (hw : CWt A wt) : ∃ r4 r5 r6 : Nat → Int32, mv_Ev xs Ls 5 76 [.ref 0, .int (nI 2)] (MW A B F sw) (some (.int (cbwN (cbsN (suchN n nb 2) (weightN n wt) true (2 ^ n)))), MW (upA (upA (upA A 4 r4) 5 r5) 6 r6) B (upF F 3 (F 2)) sw, 0, 0) ∧ RI (upA (upA (upA A 4 r4) 5 r5) 6 r6) n nb ∧ CZ (upA (upA (upA A 4 r4) 5 r5) 6 r6) := by
  have hn := hC.1
  have hp := pow10 hn
  obtain ⟨r4, r5, r6, hev, hR, hZ2⟩ := ev_fBest2 (xs := xs) (Ls := Ls) (B := B) (sw := sw) hC hZ hco hw
  refine ⟨r4, r5, r6, ?_, hR, hZ2⟩
  refine ev_of_wp rfl rfl rfl ?_
  refine wp_go (f' := (17, [.ref 0, .int (nI 2), .retAddr 0], [.int (nI 2), .ref 23], MW A B F sw, 0, 0)) 8 rfl ?_
  refine wp_call rfl rfl rfl (ev_up hev (by decide)) ?_
  rcases cbs_ok (G := suchN n nb 2) (W := weightN n wt) (least := true) (2 ^ n) with h | ⟨t, ht, e⟩
  · rw [show cbwN (cbsN (suchN n nb 2) (weightN n wt) true (2 ^ n)) = -1 by unfold cbwN; rw [if_pos h], h]
    refine wp_go (f' := (38, [.ref 0, .int (nI 2), .int (-1)], [.int (-1)], MW (upA (upA (upA A 4 r4) 5 r5) 6 r6) B (upF F 3 (F 2)) sw, 0, 0)) 6 rfl ?_
    exact wp_iret rfl
  · have hne : ¬ nI t = -1 := nI_n1 (by omega)
    rw [show cbwN (cbsN (suchN n nb 2) (weightN n wt) true (2 ^ n)) = nI (weightN n wt t) by unfold cbwN; rw [e]; exact if_neg hne, e]
    refine wp_go (f' := ((if ¬ nI t = -1 then 30 else 26), [.ref 0, .int (nI 2), .int (nI t)], [], MW (upA (upA (upA A 4 r4) 5 r5) 6 r6) B (upF F 3 (F 2)) sw, 0, 0)) 4 rfl ?_
    refine wp_ite (fun _ => ?_) (fun h9 => absurd hne h9)
    refine wp_go (f' := (35, [.ref 0, .int (nI 2), .int (nI t)], [.int (nI t), .ref 1], MW (upA (upA (upA A 4 r4) 5 r5) 6 r6) B (upF F 3 (F 2)) sw, 0, 0)) 3 rfl ?_
    refine wp_call rfl rfl rfl (ev_up (ev_gWeight (A := (upA (upA (upA A 4 r4) 5 r5) 6 r6)) (F := upF F 3 (F 2)) (nb := nb) hC (by omega) hw) (by decide)) ?_
    exact wp_iret rfl
theorem lq_fBest3 (hC : CI A F n nb) (hR : RI A n nb) {wt : Nat → Nat} (hw : CWt A wt) : mv_Wp xs Ls 3 1 false (some .int) mv_c77 (7, [.ref 23, .int (nI 3), .retAddr 0, .retAddr 0, .retAddr 0, .retAddr 0, .retAddr 0, .retAddr 0], [], MW A B F sw, 0, 0) (some (.int ((cbsN (suchN n nb 3) (weightN n wt) false (2 ^ n)).1)), MW A B F sw, 0, 0) := by
  have hn := hC.1
  have hp := pow10 hn
  have hp1 : 1 ≤ 2 ^ n := Nat.one_le_two_pow
  have hal := all_lt hn
  refine wp_go (f' := ((if (nI 3) = (nI 1) then 17 else 12), [.ref 23, .int (nI 3), .retAddr 0, .retAddr 0, .retAddr 0, .retAddr 0, .retAddr 0, .retAddr 0], [], MW A B F sw, 0, 0)) 3 rfl ?_
  refine wp_ite (fun h9 => absurd h9 (by decide : ¬ nI 3 = nI 1)) (fun _ => ?_)
  refine wp_go (f' := ((if ¬ (nI 3) = (nI 2) then 21 else 17), [.ref 23, .int (nI 3), .retAddr 0, .retAddr 0, .retAddr 0, .retAddr 0, .retAddr 0, .retAddr 0], [], MW A B F sw, 0, 0)) 3 rfl ?_
  refine wp_ite (fun _ => ?_) (fun h9 => absurd (by decide : ¬ nI 3 = nI 2) h9)
  refine wp_go (f' := (32, [.ref 23, .int (nI 3), .int (nI 0), .int (-1), .int (nI 0), .retAddr 0, .retAddr 0, .retAddr 0], [.ref 1], MW A B F sw, 0, 0)) 8 rfl ?_
  refine wp_call rfl rfl rfl (ev_up (ev_gAll hC) (by decide)) ?_
  refine wp_eq (f' := (35, [.ref 23, .int (nI 3), .int (nI 0), .int (-1), .int (nI 0), .retAddr 0, .retAddr 0, .retAddr 0], [.int (nI (2 ^ n - 1))], MW A B F sw, 0, 0)) rfl ?_
  refine wp_go (f' := (40, [.ref 23, .int (nI 3), .int (nI 0), .int (-1), .int (nI 0), .int (nI (2 ^ n - 1)), .int (nI 0), .retAddr 0], [], MW A B F sw, 0, 0)) 3 rfl ?_
  refine for_ind (P := fun (k : Nat) (q : Int32 × Int32) => ∀ (d7 : Value), mv_Wp xs Ls 3 1 false (some .int) mv_c77 (40, [.ref 23, .int (nI 3), .int (nI 0), .int q.1, .int q.2, .int (nI (2 ^ n - 1)), .int (nI k), d7], [], MW A B F sw, 0, 0) (some (.int ((cbsN (suchN n nb 3) (weightN n wt) false (2 ^ n)).1)), MW A B F sw, 0, 0)) (f := cbsS (suchN n nb 3) (weightN n wt) false) (n := (2 ^ n)) ?_ (2 ^ n) ((-1 : Int32), (nI 0 : Int32)) (Nat.le_refl _) ?_  (.retAddr 0)
  · intro k q hk ih  d7
    refine wp_go (f' := ((if (nI (2 ^ n - 1)) < (nI k) then 110 else 47), [.ref 23, .int (nI 3), .int (nI 0), .int q.1, .int q.2, .int (nI (2 ^ n - 1)), .int (nI k), d7], [], MW A B F sw, 0, 0)) 3 rfl ?_
    refine wp_ite (fun h9 => absurd h9 (nI_nlt (by omega) (by omega))) (fun _ => ?_)
    refine wp_go (f' := (51, [.ref 23, .int (nI 3), .int (nI 0), .int q.1, .int q.2, .int (nI (2 ^ n - 1)), .int (nI k), d7], [.int (nI k), .int (nI 3), .ref 23], MW A B F sw, 0, 0)) 3 rfl ?_
    refine wp_call rfl rfl rfl (ev_up (ev_fSuch3 hC hR (s := k) (by omega)) (by decide)) ?_
    refine wp_eq (f' := (54, [.ref 23, .int (nI 3), .int (nI 0), .int q.1, .int q.2, .int (nI (2 ^ n - 1)), .int (nI k), d7], [.int (bI (suchN n nb 3 k))], MW A B F sw, 0, 0)) rfl ?_
    refine wp_go (f' := ((if ¬ (bI (suchN n nb 3 k)) = 0 then 60 else 57), [.ref 23, .int (nI 3), .int (nI 0), .int q.1, .int q.2, .int (nI (2 ^ n - 1)), .int (nI k), d7], [], MW A B F sw, 0, 0)) 1 rfl ?_
    refine wp_ite (fun h1 => ?_) (fun h1 => ?_)
    · have h1 := bI_n0 h1
      refine wp_go (f' := (66, [.ref 23, .int (nI 3), .int (nI 0), .int q.1, .int q.2, .int (nI (2 ^ n - 1)), .int (nI k), d7], [.int (nI k), .ref 1], MW A B F sw, 0, 0)) 3 rfl ?_
      refine wp_call rfl rfl rfl (ev_up (ev_gWeight hC (s := k) (by omega) hw) (by decide)) ?_
      refine wp_eq (f' := (69, [.ref 23, .int (nI 3), .int (nI 0), .int q.1, .int q.2, .int (nI (2 ^ n - 1)), .int (nI k), d7], [.int (nI (weightN n wt k))], MW A B F sw, 0, 0)) rfl ?_
      refine wp_go (f' := ((if q.1 = (-1) then 97 else 76), [.ref 23, .int (nI 3), .int (nI 0), .int q.1, .int q.2, .int (nI (2 ^ n - 1)), .int (nI k), .int (nI (weightN n wt k))], [], MW A B F sw, 0, 0)) 4 rfl ?_
      refine wp_ite (fun h2 => ?_) (fun h2 => ?_)
      · skip
        refine wp_go (f' := (107, [.ref 23, .int (nI 3), .int (nI 0), .int (nI k), .int (nI (weightN n wt k)), .int (nI (2 ^ n - 1)), .int ((nI k) + 1), .int (nI (weightN n wt k))], [], MW A B F sw, 0, 0)) 5 rfl ?_
        rw [nI_1]
        refine wp_go (f' := (40, [.ref 23, .int (nI 3), .int (nI 0), .int (nI k), .int (nI (weightN n wt k)), .int (nI (2 ^ n - 1)), .int (nI (k + 1)), .int (nI (weightN n wt k))], [], MW A B F sw, 0, 0)) 1 rfl ?_
        refine wp_eq ?_ (ih (.int (nI (weightN n wt k))))
        simp [cbsS, h1, h2]
      · skip
        refine wp_go (f' := ((if (nI 0) = 0 then 90 else 80), [.ref 23, .int (nI 3), .int (nI 0), .int q.1, .int q.2, .int (nI (2 ^ n - 1)), .int (nI k), .int (nI (weightN n wt k))], [], MW A B F sw, 0, 0)) 2 rfl ?_
        refine wp_ite (fun _ => ?_) (fun h9 => absurd (rfl : nI 0 = 0) h9)
        refine wp_go (f' := ((if (nI (weightN n wt k)) ≤ q.2 then 104 else 97), [.ref 23, .int (nI 3), .int (nI 0), .int q.1, .int q.2, .int (nI (2 ^ n - 1)), .int (nI k), .int (nI (weightN n wt k))], [], MW A B F sw, 0, 0)) 3 rfl ?_
        refine wp_ite (fun h3 => ?_) (fun h3 => ?_)
        · skip
          refine wp_go (f' := (107, [.ref 23, .int (nI 3), .int (nI 0), .int q.1, .int q.2, .int (nI (2 ^ n - 1)), .int ((nI k) + 1), .int (nI (weightN n wt k))], [], MW A B F sw, 0, 0)) 1 rfl ?_
          rw [nI_1]
          refine wp_go (f' := (40, [.ref 23, .int (nI 3), .int (nI 0), .int q.1, .int q.2, .int (nI (2 ^ n - 1)), .int (nI (k + 1)), .int (nI (weightN n wt k))], [], MW A B F sw, 0, 0)) 1 rfl ?_
          refine wp_eq ?_ (ih (.int (nI (weightN n wt k))))
          simp [cbsS, h1, h2, Int32.not_lt.mpr h3]
        · skip
          refine wp_go (f' := (107, [.ref 23, .int (nI 3), .int (nI 0), .int (nI k), .int (nI (weightN n wt k)), .int (nI (2 ^ n - 1)), .int ((nI k) + 1), .int (nI (weightN n wt k))], [], MW A B F sw, 0, 0)) 5 rfl ?_
          rw [nI_1]
          refine wp_go (f' := (40, [.ref 23, .int (nI 3), .int (nI 0), .int (nI k), .int (nI (weightN n wt k)), .int (nI (2 ^ n - 1)), .int (nI (k + 1)), .int (nI (weightN n wt k))], [], MW A B F sw, 0, 0)) 1 rfl ?_
          refine wp_eq ?_ (ih (.int (nI (weightN n wt k))))
          simp [cbsS, h1, h2, Int32.not_le.mp h3]
    · have h1 := Classical.not_not.mp h1; have h1 := bI_0.mp h1
      refine wp_go (f' := (107, [.ref 23, .int (nI 3), .int (nI 0), .int q.1, .int q.2, .int (nI (2 ^ n - 1)), .int ((nI k) + 1), d7], [], MW A B F sw, 0, 0)) 2 rfl ?_
      rw [nI_1]
      refine wp_go (f' := (40, [.ref 23, .int (nI 3), .int (nI 0), .int q.1, .int q.2, .int (nI (2 ^ n - 1)), .int (nI (k + 1)), d7], [], MW A B F sw, 0, 0)) 1 rfl ?_
      refine wp_eq ?_ (ih d7)
      simp [cbsS, h1]
  · intro  d7
    refine wp_go (f' := ((if (nI (2 ^ n - 1)) < (nI (2 ^ n)) then 110 else 47), [.ref 23, .int (nI 3), .int (nI 0), .int ((cbsN (suchN n nb 3) (weightN n wt) false (2 ^ n)).1), .int ((cbsN (suchN n nb 3) (weightN n wt) false (2 ^ n)).2), .int (nI (2 ^ n - 1)), .int (nI (2 ^ n)), d7], [], MW A B F sw, 0, 0)) 3 rfl ?_
    refine wp_ite (fun _ => ?_) (fun h9 => absurd (nI_lt (by omega) (by omega)) h9)
    refine wp_go (f' := (111, [.ref 23, .int (nI 3), .int (nI 0), .int ((cbsN (suchN n nb 3) (weightN n wt) false (2 ^ n)).1), .int ((cbsN (suchN n nb 3) (weightN n wt) false (2 ^ n)).2), .int (nI (2 ^ n - 1)), .int (nI (2 ^ n)), d7], [.int ((cbsN (suchN n nb 3) (weightN n wt) false (2 ^ n)).1)], MW A B F sw, 0, 0)) 1 rfl ?_
    exact wp_iret rfl
theorem ev_fBest3 (hC : CI A F n nb) (hZ : CZ A) (hco : F 3 = F 2 → RI A n nb) {wt : Nat → Nat} (hw : CWt A wt) : ∃ r4 r5 r6 : Nat → Int32, mv_Ev xs Ls 4 77 [.ref 23, .int (nI 3)] (MW A B F sw) (some (.int ((cbsN (suchN n nb 3) (weightN n wt) false (2 ^ n)).1)), MW (upA (upA (upA A 4 r4) 5 r5) 6 r6) B (upF F 3 (F 2)) sw, 0, 0) ∧ RI (upA (upA (upA A 4 r4) 5 r5) 6 r6) n nb ∧ CZ (upA (upA (upA A 4 r4) 5 r5) 6 r6) := by
  obtain ⟨r4, r5, r6, hev, hR, hZ2⟩ := ev_rows_any (xs := xs) (Ls := Ls) (B := B) (sw := sw) hC hZ hco
  refine ⟨r4, r5, r6, ?_, hR, hZ2⟩
  refine ev_of_wp rfl rfl rfl ?_
  refine wp_go (f' := (4, [.ref 23, .int (nI 3), .retAddr 0, .retAddr 0, .retAddr 0, .retAddr 0, .retAddr 0, .retAddr 0], [.ref 1], MW A B F sw, 0, 0)) 2 rfl ?_
  refine wp_call rfl rfl rfl (ev_up hev (by decide)) ?_
  exact lq_fBest3 (A := (upA (upA (upA A 4 r4) 5 r5) 6 r6)) (F := upF F 3 (F 2)) hC hR hw
theorem ev_bWhich3 (hC : CI A F n nb) (hZ : CZ A) (hco : F 3 = F 2 → RI A n nb) {wt : Nat → Nat} (hw : CWt A wt) : ∃ r4 r5 r6 : Nat → Int32, mv_Ev xs Ls 5 80 [.ref 0, .int (nI 3)] (MW A B F sw) (some (.int ((cbsN (suchN n nb 3) (weightN n wt) false (2 ^ n)).1)), MW (upA (upA (upA A 4 r4) 5 r5) 6 r6) B (upF F 3 (F 2)) sw, 0, 0) ∧ RI (upA (upA (upA A 4 r4) 5 r5) 6 r6) n nb ∧ CZ (upA (upA (upA A 4 r4) 5 r5) 6 r6) := by
  obtain ⟨r4, r5, r6, hev, hR, hZ2⟩ := ev_fBest3 (xs := xs) (Ls := Ls) (B := B) (sw := sw) hC hZ hco hw
  refine ⟨r4, r5, r6, ?_, hR, hZ2⟩
  refine ev_of_wp rfl rfl rfl ?_
  refine wp_go (f' := (19, [.ref 0, .int (nI 3)], [.int (nI 3), .ref 23], MW A B F sw, 0, 0)) 8 rfl ?_
  refine wp_call rfl rfl rfl (ev_up hev (by decide)) ?_
  exact wp_iret rfl
theorem ev_bBest3 (hC : CI A F n nb) (hZ : CZ A) (hco : F 3 = F 2 → RI A n nb) {wt : Nat → Nat} (hw : CWt A wt) : ∃ r4 r5 r6 : Nat → Int32, mv_Ev xs Ls 5 76 [.ref 0, .int (nI 3)] (MW A B F sw) (some (.int (cbwN (cbsN (suchN n nb 3) (weightN n wt) false (2 ^ n)))), MW (upA (upA (upA A 4 r4) 5 r5) 6 r6) B (upF F 3 (F 2)) sw, 0, 0) ∧ RI (upA (upA (upA A 4 r4) 5 r5) 6 r6) n nb ∧ CZ (upA (upA (upA A 4 r4) 5 r5) 6 r6) := by
  have hn := hC.1
  have hp := pow10 hn
  obtain ⟨r4, r5, r6, hev, hR, hZ2⟩ := ev_fBest3 (xs := xs) (Ls := Ls) (B := B) (sw := sw) hC hZ hco hw
  refine ⟨r4, r5, r6, ?_, hR, hZ2⟩
  refine ev_of_wp rfl rfl rfl ?_
  refine wp_go (f' := (17, [.ref 0, .int (nI 3), .retAddr 0], [.int (nI 3), .ref 23], MW A B F sw, 0, 0)) 8 rfl ?_
  refine wp_call rfl rfl rfl (ev_up hev (by decide)) ?_
  rcases cbs_ok (G := suchN n nb 3) (W := weightN n wt) (least := false) (2 ^ n) with h | ⟨t, ht, e⟩
  · rw [show cbwN (cbsN (suchN n nb 3) (weightN n wt) false (2 ^ n)) = -1 by unfold cbwN; rw [if_pos h], h]
    refine wp_go (f' := (38, [.ref 0, .int (nI 3), .int (-1)], [.int (-1)], MW (upA (upA (upA A 4 r4) 5 r5) 6 r6) B (upF F 3 (F 2)) sw, 0, 0)) 6 rfl ?_
    exact wp_iret rfl
  · have hne : ¬ nI t = -1 := nI_n1 (by omega)
    rw [show cbwN (cbsN (suchN n nb 3) (weightN n wt) false (2 ^ n)) = nI (weightN n wt t) by unfold cbwN; rw [e]; exact if_neg hne, e]
    refine wp_go (f' := ((if ¬ nI t = -1 then 30 else 26), [.ref 0, .int (nI 3), .int (nI t)], [], MW (upA (upA (upA A 4 r4) 5 r5) 6 r6) B (upF F 3 (F 2)) sw, 0, 0)) 4 rfl ?_
    refine wp_ite (fun _ => ?_) (fun h9 => absurd hne h9)
    refine wp_go (f' := (35, [.ref 0, .int (nI 3), .int (nI t)], [.int (nI t), .ref 1], MW (upA (upA (upA A 4 r4) 5 r5) 6 r6) B (upF F 3 (F 2)) sw, 0, 0)) 3 rfl ?_
    refine wp_call rfl rfl rfl (ev_up (ev_gWeight (A := (upA (upA (upA A 4 r4) 5 r5) 6 r6)) (F := upF F 3 (F 2)) (nb := nb) hC (by omega) hw) (by decide)) ?_
    exact wp_iret rfl
theorem lq_fBest4 (hC : CI A F n nb) (hR : RI A n nb) {wt : Nat → Nat} (hw : CWt A wt) : mv_Wp xs Ls 3 1 false (some .int) mv_c77 (7, [.ref 23, .int (nI 4), .retAddr 0, .retAddr 0, .retAddr 0, .retAddr 0, .retAddr 0, .retAddr 0], [], MW A B F sw, 0, 0) (some (.int ((cbsN (suchN n nb 4) (weightN n wt) false (2 ^ n)).1)), MW A B F sw, 0, 0) := by
  have hn := hC.1
  have hp := pow10 hn
  have hp1 : 1 ≤ 2 ^ n := Nat.one_le_two_pow
  have hal := all_lt hn
  refine wp_go (f' := ((if (nI 4) = (nI 1) then 17 else 12), [.ref 23, .int (nI 4), .retAddr 0, .retAddr 0, .retAddr 0, .retAddr 0, .retAddr 0, .retAddr 0], [], MW A B F sw, 0, 0)) 3 rfl ?_
  refine wp_ite (fun h9 => absurd h9 (by decide : ¬ nI 4 = nI 1)) (fun _ => ?_)
  refine wp_go (f' := ((if ¬ (nI 4) = (nI 2) then 21 else 17), [.ref 23, .int (nI 4), .retAddr 0, .retAddr 0, .retAddr 0, .retAddr 0, .retAddr 0, .retAddr 0], [], MW A B F sw, 0, 0)) 3 rfl ?_
  refine wp_ite (fun _ => ?_) (fun h9 => absurd (by decide : ¬ nI 4 = nI 2) h9)
  refine wp_go (f' := (32, [.ref 23, .int (nI 4), .int (nI 0), .int (-1), .int (nI 0), .retAddr 0, .retAddr 0, .retAddr 0], [.ref 1], MW A B F sw, 0, 0)) 8 rfl ?_
  refine wp_call rfl rfl rfl (ev_up (ev_gAll hC) (by decide)) ?_
  refine wp_eq (f' := (35, [.ref 23, .int (nI 4), .int (nI 0), .int (-1), .int (nI 0), .retAddr 0, .retAddr 0, .retAddr 0], [.int (nI (2 ^ n - 1))], MW A B F sw, 0, 0)) rfl ?_
  refine wp_go (f' := (40, [.ref 23, .int (nI 4), .int (nI 0), .int (-1), .int (nI 0), .int (nI (2 ^ n - 1)), .int (nI 0), .retAddr 0], [], MW A B F sw, 0, 0)) 3 rfl ?_
  refine for_ind (P := fun (k : Nat) (q : Int32 × Int32) => ∀ (d7 : Value), mv_Wp xs Ls 3 1 false (some .int) mv_c77 (40, [.ref 23, .int (nI 4), .int (nI 0), .int q.1, .int q.2, .int (nI (2 ^ n - 1)), .int (nI k), d7], [], MW A B F sw, 0, 0) (some (.int ((cbsN (suchN n nb 4) (weightN n wt) false (2 ^ n)).1)), MW A B F sw, 0, 0)) (f := cbsS (suchN n nb 4) (weightN n wt) false) (n := (2 ^ n)) ?_ (2 ^ n) ((-1 : Int32), (nI 0 : Int32)) (Nat.le_refl _) ?_  (.retAddr 0)
  · intro k q hk ih  d7
    refine wp_go (f' := ((if (nI (2 ^ n - 1)) < (nI k) then 110 else 47), [.ref 23, .int (nI 4), .int (nI 0), .int q.1, .int q.2, .int (nI (2 ^ n - 1)), .int (nI k), d7], [], MW A B F sw, 0, 0)) 3 rfl ?_
    refine wp_ite (fun h9 => absurd h9 (nI_nlt (by omega) (by omega))) (fun _ => ?_)
    refine wp_go (f' := (51, [.ref 23, .int (nI 4), .int (nI 0), .int q.1, .int q.2, .int (nI (2 ^ n - 1)), .int (nI k), d7], [.int (nI k), .int (nI 4), .ref 23], MW A B F sw, 0, 0)) 3 rfl ?_
    refine wp_call rfl rfl rfl (ev_up (ev_fSuch4 hC hR (s := k) (by omega)) (by decide)) ?_
    refine wp_eq (f' := (54, [.ref 23, .int (nI 4), .int (nI 0), .int q.1, .int q.2, .int (nI (2 ^ n - 1)), .int (nI k), d7], [.int (bI (suchN n nb 4 k))], MW A B F sw, 0, 0)) rfl ?_
    refine wp_go (f' := ((if ¬ (bI (suchN n nb 4 k)) = 0 then 60 else 57), [.ref 23, .int (nI 4), .int (nI 0), .int q.1, .int q.2, .int (nI (2 ^ n - 1)), .int (nI k), d7], [], MW A B F sw, 0, 0)) 1 rfl ?_
    refine wp_ite (fun h1 => ?_) (fun h1 => ?_)
    · have h1 := bI_n0 h1
      refine wp_go (f' := (66, [.ref 23, .int (nI 4), .int (nI 0), .int q.1, .int q.2, .int (nI (2 ^ n - 1)), .int (nI k), d7], [.int (nI k), .ref 1], MW A B F sw, 0, 0)) 3 rfl ?_
      refine wp_call rfl rfl rfl (ev_up (ev_gWeight hC (s := k) (by omega) hw) (by decide)) ?_
      refine wp_eq (f' := (69, [.ref 23, .int (nI 4), .int (nI 0), .int q.1, .int q.2, .int (nI (2 ^ n - 1)), .int (nI k), d7], [.int (nI (weightN n wt k))], MW A B F sw, 0, 0)) rfl ?_
      refine wp_go (f' := ((if q.1 = (-1) then 97 else 76), [.ref 23, .int (nI 4), .int (nI 0), .int q.1, .int q.2, .int (nI (2 ^ n - 1)), .int (nI k), .int (nI (weightN n wt k))], [], MW A B F sw, 0, 0)) 4 rfl ?_
      refine wp_ite (fun h2 => ?_) (fun h2 => ?_)
      · skip
        refine wp_go (f' := (107, [.ref 23, .int (nI 4), .int (nI 0), .int (nI k), .int (nI (weightN n wt k)), .int (nI (2 ^ n - 1)), .int ((nI k) + 1), .int (nI (weightN n wt k))], [], MW A B F sw, 0, 0)) 5 rfl ?_
        rw [nI_1]
        refine wp_go (f' := (40, [.ref 23, .int (nI 4), .int (nI 0), .int (nI k), .int (nI (weightN n wt k)), .int (nI (2 ^ n - 1)), .int (nI (k + 1)), .int (nI (weightN n wt k))], [], MW A B F sw, 0, 0)) 1 rfl ?_
        refine wp_eq ?_ (ih (.int (nI (weightN n wt k))))
        simp [cbsS, h1, h2]
      · skip
        refine wp_go (f' := ((if (nI 0) = 0 then 90 else 80), [.ref 23, .int (nI 4), .int (nI 0), .int q.1, .int q.2, .int (nI (2 ^ n - 1)), .int (nI k), .int (nI (weightN n wt k))], [], MW A B F sw, 0, 0)) 2 rfl ?_
        refine wp_ite (fun _ => ?_) (fun h9 => absurd (rfl : nI 0 = 0) h9)
        refine wp_go (f' := ((if (nI (weightN n wt k)) ≤ q.2 then 104 else 97), [.ref 23, .int (nI 4), .int (nI 0), .int q.1, .int q.2, .int (nI (2 ^ n - 1)), .int (nI k), .int (nI (weightN n wt k))], [], MW A B F sw, 0, 0)) 3 rfl ?_
        refine wp_ite (fun h3 => ?_) (fun h3 => ?_)
        · skip
          refine wp_go (f' := (107, [.ref 23, .int (nI 4), .int (nI 0), .int q.1, .int q.2, .int (nI (2 ^ n - 1)), .int ((nI k) + 1), .int (nI (weightN n wt k))], [], MW A B F sw, 0, 0)) 1 rfl ?_
          rw [nI_1]
          refine wp_go (f' := (40, [.ref 23, .int (nI 4), .int (nI 0), .int q.1, .int q.2, .int (nI (2 ^ n - 1)), .int (nI (k + 1)), .int (nI (weightN n wt k))], [], MW A B F sw, 0, 0)) 1 rfl ?_
          refine wp_eq ?_ (ih (.int (nI (weightN n wt k))))
          simp [cbsS, h1, h2, Int32.not_lt.mpr h3]
        · skip
          refine wp_go (f' := (107, [.ref 23, .int (nI 4), .int (nI 0), .int (nI k), .int (nI (weightN n wt k)), .int (nI (2 ^ n - 1)), .int ((nI k) + 1), .int (nI (weightN n wt k))], [], MW A B F sw, 0, 0)) 5 rfl ?_
          rw [nI_1]
          refine wp_go (f' := (40, [.ref 23, .int (nI 4), .int (nI 0), .int (nI k), .int (nI (weightN n wt k)), .int (nI (2 ^ n - 1)), .int (nI (k + 1)), .int (nI (weightN n wt k))], [], MW A B F sw, 0, 0)) 1 rfl ?_
          refine wp_eq ?_ (ih (.int (nI (weightN n wt k))))
          simp [cbsS, h1, h2, Int32.not_le.mp h3]
    · have h1 := Classical.not_not.mp h1; have h1 := bI_0.mp h1
      refine wp_go (f' := (107, [.ref 23, .int (nI 4), .int (nI 0), .int q.1, .int q.2, .int (nI (2 ^ n - 1)), .int ((nI k) + 1), d7], [], MW A B F sw, 0, 0)) 2 rfl ?_
      rw [nI_1]
      refine wp_go (f' := (40, [.ref 23, .int (nI 4), .int (nI 0), .int q.1, .int q.2, .int (nI (2 ^ n - 1)), .int (nI (k + 1)), d7], [], MW A B F sw, 0, 0)) 1 rfl ?_
      refine wp_eq ?_ (ih d7)
      simp [cbsS, h1]
  · intro  d7
    refine wp_go (f' := ((if (nI (2 ^ n - 1)) < (nI (2 ^ n)) then 110 else 47), [.ref 23, .int (nI 4), .int (nI 0), .int ((cbsN (suchN n nb 4) (weightN n wt) false (2 ^ n)).1), .int ((cbsN (suchN n nb 4) (weightN n wt) false (2 ^ n)).2), .int (nI (2 ^ n - 1)), .int (nI (2 ^ n)), d7], [], MW A B F sw, 0, 0)) 3 rfl ?_
    refine wp_ite (fun _ => ?_) (fun h9 => absurd (nI_lt (by omega) (by omega)) h9)
    refine wp_go (f' := (111, [.ref 23, .int (nI 4), .int (nI 0), .int ((cbsN (suchN n nb 4) (weightN n wt) false (2 ^ n)).1), .int ((cbsN (suchN n nb 4) (weightN n wt) false (2 ^ n)).2), .int (nI (2 ^ n - 1)), .int (nI (2 ^ n)), d7], [.int ((cbsN (suchN n nb 4) (weightN n wt) false (2 ^ n)).1)], MW A B F sw, 0, 0)) 1 rfl ?_
    exact wp_iret rfl
theorem ev_fBest4 (hC : CI A F n nb) (hZ : CZ A) (hco : F 3 = F 2 → RI A n nb) {wt : Nat → Nat} (hw : CWt A wt) : ∃ r4 r5 r6 : Nat → Int32, mv_Ev xs Ls 4 77 [.ref 23, .int (nI 4)] (MW A B F sw) (some (.int ((cbsN (suchN n nb 4) (weightN n wt) false (2 ^ n)).1)), MW (upA (upA (upA A 4 r4) 5 r5) 6 r6) B (upF F 3 (F 2)) sw, 0, 0) ∧ RI (upA (upA (upA A 4 r4) 5 r5) 6 r6) n nb ∧ CZ (upA (upA (upA A 4 r4) 5 r5) 6 r6) := by
  obtain ⟨r4, r5, r6, hev, hR, hZ2⟩ := ev_rows_any (xs := xs) (Ls := Ls) (B := B) (sw := sw) hC hZ hco
  refine ⟨r4, r5, r6, ?_, hR, hZ2⟩
  refine ev_of_wp rfl rfl rfl ?_
  refine wp_go (f' := (4, [.ref 23, .int (nI 4), .retAddr 0, .retAddr 0, .retAddr 0, .retAddr 0, .retAddr 0, .retAddr 0], [.ref 1], MW A B F sw, 0, 0)) 2 rfl ?_
  refine wp_call rfl rfl rfl (ev_up hev (by decide)) ?_
  exact lq_fBest4 (A := (upA (upA (upA A 4 r4) 5 r5) 6 r6)) (F := upF F 3 (F 2)) hC hR hw
theorem ev_bWhich4 (hC : CI A F n nb) (hZ : CZ A) (hco : F 3 = F 2 → RI A n nb) {wt : Nat → Nat} (hw : CWt A wt) : ∃ r4 r5 r6 : Nat → Int32, mv_Ev xs Ls 5 80 [.ref 0, .int (nI 4)] (MW A B F sw) (some (.int ((cbsN (suchN n nb 4) (weightN n wt) false (2 ^ n)).1)), MW (upA (upA (upA A 4 r4) 5 r5) 6 r6) B (upF F 3 (F 2)) sw, 0, 0) ∧ RI (upA (upA (upA A 4 r4) 5 r5) 6 r6) n nb ∧ CZ (upA (upA (upA A 4 r4) 5 r5) 6 r6) := by
  obtain ⟨r4, r5, r6, hev, hR, hZ2⟩ := ev_fBest4 (xs := xs) (Ls := Ls) (B := B) (sw := sw) hC hZ hco hw
  refine ⟨r4, r5, r6, ?_, hR, hZ2⟩
  refine ev_of_wp rfl rfl rfl ?_
  refine wp_go (f' := (19, [.ref 0, .int (nI 4)], [.int (nI 4), .ref 23], MW A B F sw, 0, 0)) 8 rfl ?_
  refine wp_call rfl rfl rfl (ev_up hev (by decide)) ?_
  exact wp_iret rfl
theorem ev_bBest4 (hC : CI A F n nb) (hZ : CZ A) (hco : F 3 = F 2 → RI A n nb) {wt : Nat → Nat} (hw : CWt A wt) : ∃ r4 r5 r6 : Nat → Int32, mv_Ev xs Ls 5 76 [.ref 0, .int (nI 4)] (MW A B F sw) (some (.int (cbwN (cbsN (suchN n nb 4) (weightN n wt) false (2 ^ n)))), MW (upA (upA (upA A 4 r4) 5 r5) 6 r6) B (upF F 3 (F 2)) sw, 0, 0) ∧ RI (upA (upA (upA A 4 r4) 5 r5) 6 r6) n nb ∧ CZ (upA (upA (upA A 4 r4) 5 r5) 6 r6) := by
  have hn := hC.1
  have hp := pow10 hn
  obtain ⟨r4, r5, r6, hev, hR, hZ2⟩ := ev_fBest4 (xs := xs) (Ls := Ls) (B := B) (sw := sw) hC hZ hco hw
  refine ⟨r4, r5, r6, ?_, hR, hZ2⟩
  refine ev_of_wp rfl rfl rfl ?_
  refine wp_go (f' := (17, [.ref 0, .int (nI 4), .retAddr 0], [.int (nI 4), .ref 23], MW A B F sw, 0, 0)) 8 rfl ?_
  refine wp_call rfl rfl rfl (ev_up hev (by decide)) ?_
  rcases cbs_ok (G := suchN n nb 4) (W := weightN n wt) (least := false) (2 ^ n) with h | ⟨t, ht, e⟩
  · rw [show cbwN (cbsN (suchN n nb 4) (weightN n wt) false (2 ^ n)) = -1 by unfold cbwN; rw [if_pos h], h]
    refine wp_go (f' := (38, [.ref 0, .int (nI 4), .int (-1)], [.int (-1)], MW (upA (upA (upA A 4 r4) 5 r5) 6 r6) B (upF F 3 (F 2)) sw, 0, 0)) 6 rfl ?_
    exact wp_iret rfl
  · have hne : ¬ nI t = -1 := nI_n1 (by omega)
    rw [show cbwN (cbsN (suchN n nb 4) (weightN n wt) false (2 ^ n)) = nI (weightN n wt t) by unfold cbwN; rw [e]; exact if_neg hne, e]
    refine wp_go (f' := ((if ¬ nI t = -1 then 30 else 26), [.ref 0, .int (nI 4), .int (nI t)], [], MW (upA (upA (upA A 4 r4) 5 r5) 6 r6) B (upF F 3 (F 2)) sw, 0, 0)) 4 rfl ?_
    refine wp_ite (fun _ => ?_) (fun h9 => absurd hne h9)
    refine wp_go (f' := (35, [.ref 0, .int (nI 4), .int (nI t)], [.int (nI t), .ref 1], MW (upA (upA (upA A 4 r4) 5 r5) 6 r6) B (upF F 3 (F 2)) sw, 0, 0)) 3 rfl ?_
    refine wp_call rfl rfl rfl (ev_up (ev_gWeight (A := (upA (upA (upA A 4 r4) 5 r5) 6 r6)) (F := upF F 3 (F 2)) (nb := nb) hC (by omega) hw) (by decide)) ?_
    exact wp_iret rfl
theorem ev_bBest_f1 {x : Int32} (hx : x < 0) : mv_Ev xs Ls 1 76 [.ref 0, .int x] (MW A B F sw) (some (.int (-2)), MW A B F sw, 0, 0) := by
  refine ev_of_wp rfl rfl rfl ?_
  refine wp_go (f' := ((if x < 0 then 9 else 4), [.ref 0, .int x, .retAddr 0], [], MW A B F sw, 0, 0)) 2 rfl ?_
  refine wp_ite (fun _ => ?_) (fun h9 => absurd hx h9)
  refine wp_go (f' := (11, [.ref 0, .int x, .retAddr 0], [.int (-2)], MW A B F sw, 0, 0)) 1 rfl ?_
  exact wp_iret rfl
theorem ev_bBest_f2 {x : Int32} (hx : ¬ x < 0) (hx2 : ¬ x < nI 5) : mv_Ev xs Ls 1 76 [.ref 0, .int x] (MW A B F sw) (some (.int (-2)), MW A B F sw, 0, 0) := by
  refine ev_of_wp rfl rfl rfl ?_
  refine wp_go (f' := ((if x < 0 then 9 else 4), [.ref 0, .int x, .retAddr 0], [], MW A B F sw, 0, 0)) 2 rfl ?_
  refine wp_ite (fun h9 => absurd h9 hx) (fun _ => ?_)
  refine wp_go (f' := ((if x < (nI 5) then 12 else 9), [.ref 0, .int x, .retAddr 0], [], MW A B F sw, 0, 0)) 3 rfl ?_
  refine wp_ite (fun h9 => absurd h9 hx2) (fun _ => ?_)
  refine wp_go (f' := (11, [.ref 0, .int x, .retAddr 0], [.int (-2)], MW A B F sw, 0, 0)) 1 rfl ?_
  exact wp_iret rfl
theorem ev_bWhich_f1 {x : Int32} (hx : x < 0) : mv_Ev xs Ls 1 80 [.ref 0, .int x] (MW A B F sw) (some (.int (-2)), MW A B F sw, 0, 0) := by
  refine ev_of_wp rfl rfl rfl ?_
  refine wp_go (f' := ((if x < 0 then 9 else 4), [.ref 0, .int x], [], MW A B F sw, 0, 0)) 2 rfl ?_
  refine wp_ite (fun _ => ?_) (fun h9 => absurd hx h9)
  refine wp_go (f' := (22, [.ref 0, .int x], [.int (-2)], MW A B F sw, 0, 0)) 2 rfl ?_
  exact wp_iret rfl
theorem ev_bWhich_f2 {x : Int32} (hx : ¬ x < 0) (hx2 : ¬ x < nI 5) : mv_Ev xs Ls 1 80 [.ref 0, .int x] (MW A B F sw) (some (.int (-2)), MW A B F sw, 0, 0) := by
  refine ev_of_wp rfl rfl rfl ?_
  refine wp_go (f' := ((if x < 0 then 9 else 4), [.ref 0, .int x], [], MW A B F sw, 0, 0)) 2 rfl ?_
  refine wp_ite (fun h9 => absurd h9 hx) (fun _ => ?_)
  refine wp_go (f' := ((if x < (nI 5) then 14 else 9), [.ref 0, .int x], [], MW A B F sw, 0, 0)) 3 rfl ?_
  refine wp_ite (fun h9 => absurd h9 hx2) (fun _ => ?_)
  refine wp_go (f' := (22, [.ref 0, .int x], [.int (-2)], MW A B F sw, 0, 0)) 2 rfl ?_
  exact wp_iret rfl
theorem lp_few (hC : CI A F n nb) (hR : RI A n nb) {t : Nat} (ht : t < 2 ^ n) : ∀ (f s : Nat) (m : Int32) (d5 : Value), 2 ^ n ≤ s + f → s < 2048 → ¬ s = 0 → mv_Wp xs Ls 3 1 false (some .int) mv_c82 (26, [.ref 23, .int (nI t), .int m, .int (nI (2 ^ n - 1)), .int (nI s), d5], [], MW A B F sw, 0, 0) (some (.int (cfwF n nb t f s m)), MW A B F sw, 0, 0) := by
  have hn := hC.1
  have hp := pow10 hn
  have hp1 : 1 ≤ 2 ^ n := Nat.one_le_two_pow
  have hal := all_lt hn
  intro f
  induction f with
  | zero =>
    intro s m d5 hs hs2 hs0
    refine wp_go (f' := ((if (nI (2 ^ n - 1)) < (nI s) then 78 else 32), [.ref 23, .int (nI t), .int m, .int (nI (2 ^ n - 1)), .int (nI s), d5], [], MW A B F sw, 0, 0)) 3 rfl ?_
    refine wp_ite (fun _ => ?_) (fun h9 => absurd (nI_lt (by omega) (by omega)) h9)
    refine wp_go (f' := (79, [.ref 23, .int (nI t), .int m, .int (nI (2 ^ n - 1)), .int (nI s), d5], [.int m], MW A B F sw, 0, 0)) 1 rfl ?_
    exact wp_iret rfl
  | succ f ih =>
    intro s m d5 hs hs2 hs0
    rw [show cfwF n nb t (f + 1) s m = if s < 2 ^ n then cfwF n nb t f ((s + 1) ||| t) (if pcN nb s = s ∧ (m = -1 ∨ nI (pop s - 1) < m) then nI (pop s - 1) else m) else m from rfl]
    by_cases hsn : s < 2 ^ n
    · rw [if_pos hsn]
      have hpq := pop_pos (s := s) (by omega) hs0
      have hle : s + 1 ≤ (s + 1) ||| t := Nat.left_le_or
      have hlt : (s + 1) ||| t < 2048 := Nat.or_lt_two_pow (n := 11) (by omega) (by omega)
      refine wp_go (f' := ((if (nI (2 ^ n - 1)) < (nI s) then 78 else 32), [.ref 23, .int (nI t), .int m, .int (nI (2 ^ n - 1)), .int (nI s), d5], [], MW A B F sw, 0, 0)) 3 rfl ?_
      refine wp_ite (fun h9 => absurd h9 (nI_nlt (by omega) (by omega))) (fun _ => ?_)
      refine wp_go (f' := (34, [.ref 23, .int (nI t), .int m, .int (nI (2 ^ n - 1)), .int (nI s), d5], [.int (nI s)], MW A B F sw, 0, 0)) 1 rfl ?_
      refine wp_call rfl rfl rfl (ev_up (ev_bitCount (s := s) (by omega) _) (by decide)) ?_
      refine wp_eq (f' := (37, [.ref 23, .int (nI t), .int m, .int (nI (2 ^ n - 1)), .int (nI s), d5], [.int (nI (pop s))], MW A B F sw, 0, 0)) rfl ?_
      have hpp := pop_le (s := s) (by omega)
      refine wp_go (f' := (39, [.ref 23, .int (nI t), .int m, .int (nI (2 ^ n - 1)), .int (nI s), d5], [.int ((nI (pop s)) - (nI 1))], MW A B F sw, 0, 0)) 2 rfl ?_
      rw [pk_sub (by omega)]
      refine wp_go (f' := (47, [.ref 23, .int (nI t), .int m, .int (nI (2 ^ n - 1)), .int (nI s), .int (nI ((pop s) - 1))], [.int (nI s), .ref 1], MW A B F sw, 0, 0)) 4 rfl ?_
      refine wp_call rfl rfl rfl (ev_up (ev_gHangs hC hR (s := s) (by omega)) (by decide)) ?_
      refine wp_eq (f' := (50, [.ref 23, .int (nI t), .int m, .int (nI (2 ^ n - 1)), .int (nI s), .int (nI ((pop s) - 1))], [.int (bI (decide (pcN nb s = s)))], MW A B F sw, 0, 0)) rfl ?_
      refine wp_go (f' := ((if (bI (decide (pcN nb s = s))) = 0 then 67 else 53), [.ref 23, .int (nI t), .int m, .int (nI (2 ^ n - 1)), .int (nI s), .int (nI ((pop s) - 1))], [], MW A B F sw, 0, 0)) 1 rfl ?_
      refine wp_ite (fun h1 => ?_) (fun h1 => ?_)
      · have h1 := bI_0.mp h1
        refine wp_go (f' := (71, [.ref 23, .int (nI t), .int m, .int (nI (2 ^ n - 1)), .int (nI s), .int (nI ((pop s) - 1))], [.int ((nI s) + (nI 1))], MW A B F sw, 0, 0)) 3 rfl ?_
        rw [nI_add]
        refine wp_go (f' := (73, [.ref 23, .int (nI t), .int m, .int (nI (2 ^ n - 1)), .int (nI s), .int (nI ((pop s) - 1))], [.int ((nI (s + 1)) ||| (nI t))], MW A B F sw, 0, 0)) 2 rfl ?_
        rw [bx_or]
        refine wp_go (f' := (26, [.ref 23, .int (nI t), .int m, .int (nI (2 ^ n - 1)), .int (nI ((s + 1) ||| t)), .int (nI ((pop s) - 1))], [], MW A B F sw, 0, 0)) 2 rfl ?_
        rw [show (if pcN nb s = s ∧ (m = -1 ∨ nI (pop s - 1) < m) then nI (pop s - 1) else m) = m by simp [of_decide_eq_false h1]]
        exact ih ((s + 1) ||| t) m (.int (nI ((pop s) - 1))) (by omega) hlt (by omega)
      · have h1 := bI_n0 h1
        refine wp_go (f' := ((if m = (-1) then 64 else 58), [.ref 23, .int (nI t), .int m, .int (nI (2 ^ n - 1)), .int (nI s), .int (nI ((pop s) - 1))], [], MW A B F sw, 0, 0)) 3 rfl ?_
        refine wp_ite (fun h2 => ?_) (fun h2 => ?_)
        · skip
          refine wp_go (f' := (71, [.ref 23, .int (nI t), .int (nI ((pop s) - 1)), .int (nI (2 ^ n - 1)), .int (nI s), .int (nI ((pop s) - 1))], [.int ((nI s) + (nI 1))], MW A B F sw, 0, 0)) 5 rfl ?_
          rw [nI_add]
          refine wp_go (f' := (73, [.ref 23, .int (nI t), .int (nI ((pop s) - 1)), .int (nI (2 ^ n - 1)), .int (nI s), .int (nI ((pop s) - 1))], [.int ((nI (s + 1)) ||| (nI t))], MW A B F sw, 0, 0)) 2 rfl ?_
          rw [bx_or]
          refine wp_go (f' := (26, [.ref 23, .int (nI t), .int (nI ((pop s) - 1)), .int (nI (2 ^ n - 1)), .int (nI ((s + 1) ||| t)), .int (nI ((pop s) - 1))], [], MW A B F sw, 0, 0)) 2 rfl ?_
          rw [show (if pcN nb s = s ∧ (m = -1 ∨ nI (pop s - 1) < m) then nI (pop s - 1) else m) = nI ((pop s) - 1) by simp [of_decide_eq_true h1, h2]]
          exact ih ((s + 1) ||| t) (nI ((pop s) - 1)) (.int (nI ((pop s) - 1))) (by omega) hlt (by omega)
        · skip
          refine wp_go (f' := ((if m ≤ (nI ((pop s) - 1)) then 67 else 64), [.ref 23, .int (nI t), .int m, .int (nI (2 ^ n - 1)), .int (nI s), .int (nI ((pop s) - 1))], [], MW A B F sw, 0, 0)) 3 rfl ?_
          refine wp_ite (fun h3 => ?_) (fun h3 => ?_)
          · skip
            refine wp_go (f' := (71, [.ref 23, .int (nI t), .int m, .int (nI (2 ^ n - 1)), .int (nI s), .int (nI ((pop s) - 1))], [.int ((nI s) + (nI 1))], MW A B F sw, 0, 0)) 3 rfl ?_
            rw [nI_add]
            refine wp_go (f' := (73, [.ref 23, .int (nI t), .int m, .int (nI (2 ^ n - 1)), .int (nI s), .int (nI ((pop s) - 1))], [.int ((nI (s + 1)) ||| (nI t))], MW A B F sw, 0, 0)) 2 rfl ?_
            rw [bx_or]
            refine wp_go (f' := (26, [.ref 23, .int (nI t), .int m, .int (nI (2 ^ n - 1)), .int (nI ((s + 1) ||| t)), .int (nI ((pop s) - 1))], [], MW A B F sw, 0, 0)) 2 rfl ?_
            rw [show (if pcN nb s = s ∧ (m = -1 ∨ nI (pop s - 1) < m) then nI (pop s - 1) else m) = m by simp [of_decide_eq_true h1, h2, Int32.not_lt.mpr h3]]
            exact ih ((s + 1) ||| t) m (.int (nI ((pop s) - 1))) (by omega) hlt (by omega)
          · skip
            refine wp_go (f' := (71, [.ref 23, .int (nI t), .int (nI ((pop s) - 1)), .int (nI (2 ^ n - 1)), .int (nI s), .int (nI ((pop s) - 1))], [.int ((nI s) + (nI 1))], MW A B F sw, 0, 0)) 5 rfl ?_
            rw [nI_add]
            refine wp_go (f' := (73, [.ref 23, .int (nI t), .int (nI ((pop s) - 1)), .int (nI (2 ^ n - 1)), .int (nI s), .int (nI ((pop s) - 1))], [.int ((nI (s + 1)) ||| (nI t))], MW A B F sw, 0, 0)) 2 rfl ?_
            rw [bx_or]
            refine wp_go (f' := (26, [.ref 23, .int (nI t), .int (nI ((pop s) - 1)), .int (nI (2 ^ n - 1)), .int (nI ((s + 1) ||| t)), .int (nI ((pop s) - 1))], [], MW A B F sw, 0, 0)) 2 rfl ?_
            rw [show (if pcN nb s = s ∧ (m = -1 ∨ nI (pop s - 1) < m) then nI (pop s - 1) else m) = nI ((pop s) - 1) by simp [of_decide_eq_true h1, h2, Int32.not_le.mp h3]]
            exact ih ((s + 1) ||| t) (nI ((pop s) - 1)) (.int (nI ((pop s) - 1))) (by omega) hlt (by omega)
    · rw [if_neg hsn]
      refine wp_go (f' := ((if (nI (2 ^ n - 1)) < (nI s) then 78 else 32), [.ref 23, .int (nI t), .int m, .int (nI (2 ^ n - 1)), .int (nI s), d5], [], MW A B F sw, 0, 0)) 3 rfl ?_
      refine wp_ite (fun _ => ?_) (fun h9 => absurd (nI_lt (by omega) (by omega)) h9)
      refine wp_go (f' := (79, [.ref 23, .int (nI t), .int m, .int (nI (2 ^ n - 1)), .int (nI s), d5], [.int m], MW A B F sw, 0, 0)) 1 rfl ?_
      exact wp_iret rfl
theorem ev_fFew0 : mv_Ev xs Ls 1 82 [.ref 23, .int (nI 0)] (MW A B F sw) (some (.int (nI 0)), MW A B F sw, 0, 0) := by
  refine ev_of_wp rfl rfl rfl ?_
  refine wp_go (f' := ((if ¬ (nI 0) = 0 then 6 else 4), [.ref 23, .int (nI 0), .retAddr 0, .retAddr 0, .retAddr 0, .retAddr 0], [], MW A B F sw, 0, 0)) 2 rfl ?_
  refine wp_ite (fun h9 => absurd h9 (fun h8 => h8 rfl : ¬ ¬ nI 0 = 0)) (fun _ => ?_)
  refine wp_go (f' := (5, [.ref 23, .int (nI 0), .retAddr 0, .retAddr 0, .retAddr 0, .retAddr 0], [.int (nI 0)], MW A B F sw, 0, 0)) 1 rfl ?_
  exact wp_iret rfl
theorem lq_few (hC : CI A F n nb) (hR : RI A n nb) {t : Nat} (ht : t < 2 ^ n) (ht0 : ¬ t = 0) : mv_Wp xs Ls 3 1 false (some .int) mv_c82 (13, [.ref 23, .int (nI t), .retAddr 0, .retAddr 0, .retAddr 0, .retAddr 0], [], MW A B F sw, 0, 0) (some (.int (cfwN n nb t)), MW A B F sw, 0, 0) := by
  have hn := hC.1
  have hp := pow10 hn
  have hp1 : 1 ≤ 2 ^ n := Nat.one_le_two_pow
  have hal := all_lt hn
  refine wp_go (f' := (19, [.ref 23, .int (nI t), .int (-1), .retAddr 0, .retAddr 0, .retAddr 0], [.ref 1], MW A B F sw, 0, 0)) 4 rfl ?_
  refine wp_call rfl rfl rfl (ev_up (ev_gAll hC) (by decide)) ?_
  refine wp_eq (f' := (22, [.ref 23, .int (nI t), .int (-1), .retAddr 0, .retAddr 0, .retAddr 0], [.int (nI (2 ^ n - 1))], MW A B F sw, 0, 0)) rfl ?_
  refine wp_go (f' := (26, [.ref 23, .int (nI t), .int (-1), .int (nI (2 ^ n - 1)), .int (nI t), .retAddr 0], [], MW A B F sw, 0, 0)) 3 rfl ?_
  exact lp_few hC hR ht 1024 t (-1) (.retAddr 0) (by omega) (by omega) ht0
theorem ev_fFew (hC : CI A F n nb) (hZ : CZ A) (hco : F 3 = F 2 → RI A n nb) {t : Nat} (ht : t < 2 ^ n) (ht0 : ¬ t = 0) : ∃ r4 r5 r6 : Nat → Int32, mv_Ev xs Ls 4 82 [.ref 23, .int (nI t)] (MW A B F sw) (some (.int (cfwN n nb t)), MW (upA (upA (upA A 4 r4) 5 r5) 6 r6) B (upF F 3 (F 2)) sw, 0, 0) ∧ RI (upA (upA (upA A 4 r4) 5 r5) 6 r6) n nb ∧ CZ (upA (upA (upA A 4 r4) 5 r5) 6 r6) := by
  have hn := hC.1
  have hp := pow10 hn
  obtain ⟨r4, r5, r6, hev, hR, hZ2⟩ := ev_rows_any (xs := xs) (Ls := Ls) (B := B) (sw := sw) hC hZ hco
  refine ⟨r4, r5, r6, ?_, hR, hZ2⟩
  refine ev_of_wp rfl rfl rfl ?_
  refine wp_go (f' := ((if ¬ nI t = 0 then 6 else 4), [.ref 23, .int (nI t), .retAddr 0, .retAddr 0, .retAddr 0, .retAddr 0], [], MW A B F sw, 0, 0)) 2 rfl ?_
  refine wp_ite (fun _ => ?_) (fun h9 => absurd (fun h8 => ht0 ((nI_eq (a := t) (b := 0) (by omega) (by omega)).mp h8)) h9)
  refine wp_go (f' := (10, [.ref 23, .int (nI t), .retAddr 0, .retAddr 0, .retAddr 0, .retAddr 0], [.ref 1], MW A B F sw, 0, 0)) 2 rfl ?_
  refine wp_call rfl rfl rfl (ev_up hev (by decide)) ?_
  exact lq_few (A := (upA (upA (upA A 4 r4) 5 r5) 6 r6)) (F := upF F 3 (F 2)) hC hR ht ht0
theorem ev_bFew_f1 (hC : CI A F n nb) {x : Int32} (hx : x < 0) : mv_Ev xs Ls 2 81 [.ref 0, .int x] (MW A B F sw) (some (.int (-2)), MW A B F sw, 0, 0) := by
  refine ev_of_wp rfl rfl rfl ?_
  have hn := hC.1
  have hp := pow10 hn
  have hp1 : 1 ≤ 2 ^ n := Nat.one_le_two_pow
  have hal := all_lt hn
  refine wp_go (f' := ((if x < 0 then 15 else 4), [.ref 0, .int x], [], MW A B F sw, 0, 0)) 2 rfl ?_
  refine wp_ite (fun _ => ?_) (fun h9 => absurd hx h9)
  refine wp_go (f' := (28, [.ref 0, .int x], [.int (-2)], MW A B F sw, 0, 0)) 2 rfl ?_
  exact wp_iret rfl
theorem ev_bFew_f2 (hC : CI A F n nb) {t : Nat} (ht : t < 2 ^ 31) (h2 : ¬ t < 2 ^ n) : mv_Ev xs Ls 2 81 [.ref 0, .int (nI t)] (MW A B F sw) (some (.int (-2)), MW A B F sw, 0, 0) := by
  refine ev_of_wp rfl rfl rfl ?_
  have hn := hC.1
  have hp := pow10 hn
  have hp1 : 1 ≤ 2 ^ n := Nat.one_le_two_pow
  have hal := all_lt hn
  refine wp_go (f' := ((if (nI t) < 0 then 15 else 4), [.ref 0, .int (nI t)], [], MW A B F sw, 0, 0)) 2 rfl ?_
  refine wp_ite (fun h9 => absurd h9 (nI_pos ht)) (fun _ => ?_)
  refine wp_go (f' := (9, [.ref 0, .int (nI t)], [.ref 1, .int (nI t)], MW A B F sw, 0, 0)) 3 rfl ?_
  refine wp_call rfl rfl rfl (ev_up (ev_gAll hC) (by decide)) ?_
  refine wp_eq (f' := (12, [.ref 0, .int (nI t)], [.int (nI (2 ^ n - 1)), .int (nI t)], MW A B F sw, 0, 0)) rfl ?_
  refine wp_go (f' := ((if (nI t) ≤ (nI (2 ^ n - 1)) then 20 else 15), [.ref 0, .int (nI t)], [], MW A B F sw, 0, 0)) 1 rfl ?_
  refine wp_ite (fun h9 => absurd h9 (fun h7 => absurd ((nI_leI ht (by omega)).mp h7) (by omega))) (fun _ => ?_)
  refine wp_go (f' := (28, [.ref 0, .int (nI t)], [.int (-2)], MW A B F sw, 0, 0)) 2 rfl ?_
  exact wp_iret rfl
theorem ev_bFew_0 (hC : CI A F n nb) : mv_Ev xs Ls 2 81 [.ref 0, .int (nI 0)] (MW A B F sw) (some (.int (nI 0)), MW A B F sw, 0, 0) := by
  refine ev_of_wp rfl rfl rfl ?_
  have hn := hC.1
  have hp := pow10 hn
  have hp1 : 1 ≤ 2 ^ n := Nat.one_le_two_pow
  have hal := all_lt hn
  refine wp_go (f' := ((if (nI 0) < 0 then 15 else 4), [.ref 0, .int (nI 0)], [], MW A B F sw, 0, 0)) 2 rfl ?_
  refine wp_ite (fun h9 => absurd h9 (nI_pos (n := 0) (by omega))) (fun _ => ?_)
  refine wp_go (f' := (9, [.ref 0, .int (nI 0)], [.ref 1, .int (nI 0)], MW A B F sw, 0, 0)) 3 rfl ?_
  refine wp_call rfl rfl rfl (ev_up (ev_gAll hC) (by decide)) ?_
  refine wp_eq (f' := (12, [.ref 0, .int (nI 0)], [.int (nI (2 ^ n - 1)), .int (nI 0)], MW A B F sw, 0, 0)) rfl ?_
  refine wp_go (f' := ((if (nI 0) ≤ (nI (2 ^ n - 1)) then 20 else 15), [.ref 0, .int (nI 0)], [], MW A B F sw, 0, 0)) 1 rfl ?_
  refine wp_ite (fun _ => ?_) (fun h9 => absurd (nI_le (Nat.zero_le _) (by omega)) h9)
  refine wp_go (f' := (25, [.ref 0, .int (nI 0)], [.int (nI 0), .ref 23], MW A B F sw, 0, 0)) 3 rfl ?_
  refine wp_call rfl rfl rfl (ev_up ev_fFew0 (by decide)) ?_
  refine wp_eq (f' := (28, [.ref 0, .int (nI 0)], [.int (nI 0)], MW A B F sw, 0, 0)) rfl ?_
  exact wp_iret rfl
theorem ev_bFew (hC : CI A F n nb) (hZ : CZ A) (hco : F 3 = F 2 → RI A n nb) {t : Nat} (ht : t < 2 ^ n) (ht0 : ¬ t = 0) : ∃ r4 r5 r6 : Nat → Int32, mv_Ev xs Ls 5 81 [.ref 0, .int (nI t)] (MW A B F sw) (some (.int (cfwN n nb t)), MW (upA (upA (upA A 4 r4) 5 r5) 6 r6) B (upF F 3 (F 2)) sw, 0, 0) ∧ RI (upA (upA (upA A 4 r4) 5 r5) 6 r6) n nb ∧ CZ (upA (upA (upA A 4 r4) 5 r5) 6 r6) := by
  have hn := hC.1
  have hp := pow10 hn
  obtain ⟨r4, r5, r6, hev, hR, hZ2⟩ := ev_fFew (xs := xs) (Ls := Ls) (B := B) (sw := sw) hC hZ hco ht ht0
  refine ⟨r4, r5, r6, ?_, hR, hZ2⟩
  refine ev_of_wp rfl rfl rfl ?_
  refine wp_go (f' := ((if nI t < 0 then 15 else 4), [.ref 0, .int (nI t)], [], MW A B F sw, 0, 0)) 2 rfl ?_
  refine wp_ite (fun h9 => absurd h9 (nI_pos (by omega))) (fun _ => ?_)
  refine wp_go (f' := (9, [.ref 0, .int (nI t)], [.ref 1, .int (nI t)], MW A B F sw, 0, 0)) 3 rfl ?_
  refine wp_call rfl rfl rfl (ev_up (ev_gAll hC) (by decide)) ?_
  refine wp_go (f' := ((if nI t ≤ nI (2 ^ n - 1) then 20 else 15), [.ref 0, .int (nI t)], [], MW A B F sw, 0, 0)) 1 rfl ?_
  refine wp_ite (fun _ => ?_) (fun h9 => absurd (nI_le (by omega) (by omega)) h9)
  refine wp_go (f' := (25, [.ref 0, .int (nI t)], [.int (nI t), .ref 23], MW A B F sw, 0, 0)) 3 rfl ?_
  refine wp_call rfl rfl rfl (ev_up hev (by decide)) ?_
  exact wp_iret rfl
end CC
