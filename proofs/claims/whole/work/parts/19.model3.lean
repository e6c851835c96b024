theorem and_lt_r {a b : Nat} (hb : b < 1024) : a &&& b < 1024 := Nat.lt_of_le_of_lt Nat.and_le_right hb
theorem nI1 : nI 1 = 1 := rfl
theorem nI0 : nI 0 = 0 := rfl
theorem bIT : bI true = 1 := rfl
theorem bIF : bI false = 0 := rfl
/-- s hangs together -/
def wholeN (n : Nat) (nb : Nat → Nat) (s : Nat) : Bool := decide (s = 0) || decide (hangN n nb (low s) s = s)
/-- no two of s are joined -/
def apartN (n : Nat) (nb : Nat → Nat) (s : Nat) : Bool := forN (fun k b => b && (!(s.testBit k) || decide (nb k &&& s = 0))) n true
/-- a clique to which no other comes -/
def cliqueN (n : Nat) (nb : Nat → Nat) (s : Nat) : Bool := forN (fun k b => b && (if s.testBit k then decide (nb k &&& s = sd s (2 ^ k)) else decide (¬ nb k &&& s = s))) n (decide (¬ s = 0))
/-- a hole -/
def holeN (n : Nat) (nb : Nat → Nat) (s : Nat) : Bool := forN (fun k b => b && (!(s.testBit k) || decide (pop (nb k &&& s) = 2))) n (decide (3 < pop s) && wholeN n nb s)
/-- twice the edges within s -/
def degsN (n : Nat) (nb : Nat → Nat) (s : Nat) : Nat := forN (fun k m => m + (if s.testBit k then pop (nb k &&& s) else 0)) n 0
section MM
variable {xs : Nat → Int32} {Ls : Nat} {A : Nat → Nat → Int32} {B : Nat → Nat → Int64} {F : Nat → Int32} {sw : Bool} {n : Nat} {nb : Nat → Nat}
theorem ev_isWhole (hM : MI A F n nb) {s : Nat} (hs : s < 1024) : mv_Ev xs Ls 2 100 [.ref 28, .int (nI s)] (MW A B F sw) (some (.int (bI (wholeN n nb s))), MW A B F sw, 0, 0) := by
  refine ev_of_wp rfl rfl rfl ?_
  have hn := hM.1
  refine wp_go (f' := ((if (nI s) = 0 then 17 else 4), [.ref 28, .int (nI s)], [], MW A B F sw, 0, 0)) 2 rfl ?_
  refine wp_ite (fun h1 => ?_) (fun h1 => ?_)
  · have h1 : s = 0 := (nI_eq (a := s) (b := 0) (by omega) (by omega)).mp h1
    refine wp_go (f' := (22, [.ref 28, .int (nI s)], [.int (nI 1)], MW A B F sw, 0, 0)) 2 rfl ?_
    rw [show bI (wholeN n nb s) = nI 1 by simp [wholeN, h1, bIT, bIF, nI1, nI0]]
    exact wp_zret rfl (by first | exact Or.inl rfl | exact Or.inr rfl)
  · have h1 : ¬ (s = 0) := fun h9 => h1 ((nI_eq (a := s) (b := 0) (by omega) (by omega)).mpr h9)
    refine wp_go (f' := (6, [.ref 28, .int (nI s)], [.int (nI s), .ref 28], MW A B F sw, 0, 0)) 2 rfl ?_
    refine wp_call rfl rfl rfl (ev_up (ev_lowest (s := s) (by omega) (by omega) _) (by decide)) ?_
    refine wp_eq (f' := (9, [.ref 28, .int (nI s)], [.int (nI (low s)), .ref 28], MW A B F sw, 0, 0)) rfl ?_
    have hlw := low_lt (s := s) (by omega) (by omega)
    refine wp_go (f' := (10, [.ref 28, .int (nI s)], [.int (nI s), .int (nI (low s)), .ref 28], MW A B F sw, 0, 0)) 1 rfl ?_
    refine wp_call rfl rfl rfl (ev_up (ev_hang hM (v := low s) (s := s) (by omega) (by omega)) (by decide)) ?_
    refine wp_eq (f' := (13, [.ref 28, .int (nI s)], [.int (nI (hangN n nb (low s) s))], MW A B F sw, 0, 0)) rfl ?_
    have hhg := hangN_lt (n := n) (nb := nb) (v := low s) (s := s) (by omega) (by omega)
    refine wp_go (f' := ((if ¬ (nI (hangN n nb (low s) s)) = (nI s) then 21 else 17), [.ref 28, .int (nI s)], [], MW A B F sw, 0, 0)) 2 rfl ?_
    refine wp_ite (fun h2 => ?_) (fun h2 => ?_)
    · have h2 : ¬ (hangN n nb (low s) s = s) := fun h9 => h2 ((nI_eq (a := hangN n nb (low s) s) (b := s) (by omega) (by omega)).mpr h9)
      refine wp_go (f' := (22, [.ref 28, .int (nI s)], [.int (nI 0)], MW A B F sw, 0, 0)) 1 rfl ?_
      rw [show bI (wholeN n nb s) = nI 0 by simp [wholeN, h1, h2, bIT, bIF, nI1, nI0]]
      exact wp_zret rfl (by first | exact Or.inl rfl | exact Or.inr rfl)
    · have h2 := Classical.not_not.mp h2; have h2 : hangN n nb (low s) s = s := (nI_eq (a := hangN n nb (low s) s) (b := s) (by omega) (by omega)).mp h2
      refine wp_go (f' := (22, [.ref 28, .int (nI s)], [.int (nI 1)], MW A B F sw, 0, 0)) 2 rfl ?_
      rw [show bI (wholeN n nb s) = nI 1 by simp [wholeN, h1, h2, bIT, bIF, nI1, nI0]]
      exact wp_zret rfl (by first | exact Or.inl rfl | exact Or.inr rfl)
theorem ev_isApart (hM : MI A F n nb) {s : Nat} (hs : s < 1024) : mv_Ev xs Ls 1 122 [.ref 28, .int (nI s)] (MW A B F sw) (some (.int (bI (apartN n nb s))), MW A B F sw, 0, 0) := by
  refine ev_of_wp rfl rfl rfl ?_
  have hn := hM.1
  refine wp_go (f' := (4, [.ref 28, .int (nI s), .int (nI 1), .int (nI 0)], [], MW A B F sw, 0, 0)) 4 rfl ?_
  refine for_ind (P := fun (k : Nat) (b : Bool) => mv_Wp xs Ls 0 6 false (some .boolean) mv_c122 (4, [.ref 28, .int (nI s), .int (bI b), .int (nI k)], [], MW A B F sw, 0, 0) (some (.int (bI (apartN n nb s))), MW A B F sw, 0, 0)) (f := fun k b => b && (!(s.testBit k) || decide (nb k &&& s = 0))) (n := n) ?_ n true (Nat.le_refl _) ?_
  · intro k b hk ih
    refine wp_go (f' := (9, [.ref 28, .int (nI s), .int (bI b), .int (nI k)], [.int (F 6), .int (nI k)], MW A B F sw, 0, 0)) 3 rfl ?_
    rw [hM.2.1]
    refine wp_go (f' := ((if (nI n) ≤ (nI k) then 47 else 12), [.ref 28, .int (nI s), .int (bI b), .int (nI k)], [], MW A B F sw, 0, 0)) 1 rfl ?_
    refine wp_ite (fun h9 => absurd h9 (nI_ge hk (by omega))) (fun _ => ?_)
    refine wp_go (f' := ((if (bI b) = 0 then 39 else 16), [.ref 28, .int (nI s), .int (bI b), .int (nI k)], [], MW A B F sw, 0, 0)) 2 rfl ?_
    refine wp_ite (fun h1 => ?_) (fun h1 => ?_)
    · have h1 := bI_0.mp h1
      refine wp_go (f' := (44, [.ref 28, .int (nI s), .int (nI 0), .int ((nI k) + 1)], [], MW A B F sw, 0, 0)) 3 rfl ?_
      rw [nI_1]
      refine wp_go (f' := (4, [.ref 28, .int (nI s), .int (nI 0), .int (nI (k + 1))], [], MW A B F sw, 0, 0)) 1 rfl ?_
      refine wp_eq ?_ ih
      simp [h1, bIT, bIF, nI1, nI0]
    · have h1 := bI_n0 h1
      refine wp_go (f' := (21, [.ref 28, .int (nI s), .int (bI b), .int (nI k)], [.int (((nI s) >>> ((nI k) &&& 31)) &&& (nI 1))], MW A B F sw, 0, 0)) 5 rfl ?_
      rw [bx_bit (by omega) (by omega)]
      refine wp_go (f' := ((if (bI (s.testBit k)) = 0 then 35 else 24), [.ref 28, .int (nI s), .int (bI b), .int (nI k)], [], MW A B F sw, 0, 0)) 1 rfl ?_
      refine wp_ite (fun h2 => ?_) (fun h2 => ?_)
      · have h2 := bI_0.mp h2
        refine wp_go (f' := (44, [.ref 28, .int (nI s), .int (nI 1), .int ((nI k) + 1)], [], MW A B F sw, 0, 0)) 4 rfl ?_
        rw [nI_1]
        refine wp_go (f' := (4, [.ref 28, .int (nI s), .int (nI 1), .int (nI (k + 1))], [], MW A B F sw, 0, 0)) 1 rfl ?_
        refine wp_eq ?_ ih
        simp [h1, h2, bIT, bIF, nI1, nI0]
      · have h2 := bI_n0 h2
        refine wp_go (f' := (29, [.ref 28, .int (nI s), .int (bI b), .int (nI k)], [.int (nI k), .ref 29], MW A B F sw, 0, 0)) 3 rfl ?_
        refine wp_iald rfl rfl (by omega) (by decide) ?_
        rw [hM.2.2.1 k (by omega)]
        have hnb := hM.2.2.2 k (by omega)
        refine wp_go (f' := (32, [.ref 28, .int (nI s), .int (bI b), .int (nI k)], [.int ((nI (nb k)) &&& (nI s))], MW A B F sw, 0, 0)) 2 rfl ?_
        rw [bx_and]
        have hb1 : (nb k) &&& s < 1024 := by first | omega | exact or_lt (by omega) (by omega) | exact and_lt (by omega) | exact and_lt_r (by omega) | exact sd_lt (by omega) | exact pow_lt (by omega)
        refine wp_go (f' := ((if ¬ (nI ((nb k) &&& s)) = 0 then 39 else 35), [.ref 28, .int (nI s), .int (bI b), .int (nI k)], [], MW A B F sw, 0, 0)) 1 rfl ?_
        refine wp_ite (fun h3 => ?_) (fun h3 => ?_)
        · have h3 : ¬ ((nb k) &&& s = 0) := fun h9 => h3 ((nI_eq (a := (nb k) &&& s) (b := 0) (by omega) (by omega)).mpr h9)
          refine wp_go (f' := (44, [.ref 28, .int (nI s), .int (nI 0), .int ((nI k) + 1)], [], MW A B F sw, 0, 0)) 3 rfl ?_
          rw [nI_1]
          refine wp_go (f' := (4, [.ref 28, .int (nI s), .int (nI 0), .int (nI (k + 1))], [], MW A B F sw, 0, 0)) 1 rfl ?_
          refine wp_eq ?_ ih
          simp [h1, h2, h3, bIT, bIF, nI1, nI0]
        · have h3 := Classical.not_not.mp h3; have h3 : (nb k) &&& s = 0 := (nI_eq (a := (nb k) &&& s) (b := 0) (by omega) (by omega)).mp h3
          refine wp_go (f' := (44, [.ref 28, .int (nI s), .int (nI 1), .int ((nI k) + 1)], [], MW A B F sw, 0, 0)) 4 rfl ?_
          rw [nI_1]
          refine wp_go (f' := (4, [.ref 28, .int (nI s), .int (nI 1), .int (nI (k + 1))], [], MW A B F sw, 0, 0)) 1 rfl ?_
          refine wp_eq ?_ ih
          simp [h1, h2, h3, bIT, bIF, nI1, nI0]
  · have hn2 := hn
    refine wp_go (f' := (9, [.ref 28, .int (nI s), .int (bI (apartN n nb s)), .int (nI n)], [.int (F 6), .int (nI n)], MW A B F sw, 0, 0)) 3 rfl ?_
    rw [hM.2.1]
    refine wp_go (f' := ((if (nI n) ≤ (nI n) then 47 else 12), [.ref 28, .int (nI s), .int (bI (apartN n nb s)), .int (nI n)], [], MW A B F sw, 0, 0)) 1 rfl ?_
    refine wp_ite (fun _ => ?_) (fun h9 => absurd (nI_le (Nat.le_refl _) (by omega)) h9)
    refine wp_go (f' := (48, [.ref 28, .int (nI s), .int (bI (apartN n nb s)), .int (nI n)], [.int (bI (apartN n nb s))], MW A B F sw, 0, 0)) 1 rfl ?_
    exact wp_zret rfl (bI_01 _)
theorem ev_isCover (hM : MI A F n nb) {s : Nat} (hs : s < 1024) : mv_Ev xs Ls 2 134 [.ref 28, .int (nI s)] (MW A B F sw) (some (.int (bI (apartN n nb (sd (2 ^ n - 1) s)))), MW A B F sw, 0, 0) := by
  refine ev_of_wp rfl rfl rfl ?_
  have hn := hM.1
  have hal := all_lt hn
  refine wp_go (f' := (2, [.ref 28, .int (nI s)], [.ref 28, .ref 28], MW A B F sw, 0, 0)) 2 rfl ?_
  refine wp_call rfl rfl rfl (ev_up (ev_all hM) (by decide)) ?_
  refine wp_eq (f' := (5, [.ref 28, .int (nI s)], [.int (nI (2 ^ n - 1)), .ref 28], MW A B F sw, 0, 0)) rfl ?_
  refine wp_go (f' := (9, [.ref 28, .int (nI s)], [.int ((nI (2 ^ n - 1)) &&& ((nI s) ^^^ (-1))), .ref 28], MW A B F sw, 0, 0)) 4 rfl ?_
  rw [bx_sd (by omega)]
  have hb1 : sd (2 ^ n - 1) s < 1024 := by first | omega | exact or_lt (by omega) (by omega) | exact and_lt (by omega) | exact and_lt_r (by omega) | exact sd_lt (by omega) | exact pow_lt (by omega)
  refine wp_call rfl rfl rfl (ev_up (ev_isApart hM (s := sd (2 ^ n - 1) s) (by omega)) (by decide)) ?_
  refine wp_eq (f' := (12, [.ref 28, .int (nI s)], [.int (bI (apartN n nb (sd (2 ^ n - 1) s)))], MW A B F sw, 0, 0)) rfl ?_
  exact wp_zret rfl (bI_01 _)
/-- each vertex is in s or joined to one in it -/
def nearAllN (n : Nat) (nb : Nat → Nat) (s : Nat) : Bool := decide ((s ||| sd (reachN n nb s) s) = 2 ^ n - 1)
theorem ev_isNearAll (hM : MI A F n nb) {s : Nat} (hs : s < 1024) : mv_Ev xs Ls 2 130 [.ref 28, .int (nI s)] (MW A B F sw) (some (.int (bI (nearAllN n nb s))), MW A B F sw, 0, 0) := by
  refine ev_of_wp rfl rfl rfl ?_
  have hn := hM.1
  have hal := all_lt hn
  refine wp_go (f' := (3, [.ref 28, .int (nI s)], [.int (nI s), .ref 28, .int (nI s)], MW A B F sw, 0, 0)) 3 rfl ?_
  refine wp_call rfl rfl rfl (ev_up (ev_around hM (s := s) (by omega)) (by decide)) ?_
  refine wp_eq (f' := (6, [.ref 28, .int (nI s)], [.int (nI (sd (reachN n nb s) s)), .int (nI s)], MW A B F sw, 0, 0)) rfl ?_
  have hra := sd_lt (b := s) (reachN_lt hM.1 hM.2.2.2 s)
  refine wp_go (f' := (7, [.ref 28, .int (nI s)], [.int ((nI s) ||| (nI (sd (reachN n nb s) s)))], MW A B F sw, 0, 0)) 1 rfl ?_
  rw [bx_or]
  have hb1 : s ||| (sd (reachN n nb s) s) < 1024 := by first | omega | exact or_lt (by omega) (by omega) | exact and_lt (by omega) | exact and_lt_r (by omega) | exact sd_lt (by omega) | exact pow_lt (by omega)
  refine wp_go (f' := (8, [.ref 28, .int (nI s)], [.ref 28, .int (nI (s ||| (sd (reachN n nb s) s)))], MW A B F sw, 0, 0)) 1 rfl ?_
  refine wp_call rfl rfl rfl (ev_up (ev_all hM) (by decide)) ?_
  refine wp_eq (f' := (11, [.ref 28, .int (nI s)], [.int (nI (2 ^ n - 1)), .int (nI (s ||| (sd (reachN n nb s) s)))], MW A B F sw, 0, 0)) rfl ?_
  refine wp_go (f' := ((if ¬ (nI (s ||| (sd (reachN n nb s) s))) = (nI (2 ^ n - 1)) then 18 else 14), [.ref 28, .int (nI s)], [], MW A B F sw, 0, 0)) 1 rfl ?_
  refine wp_ite (fun h1 => ?_) (fun h1 => ?_)
  · have h1 : ¬ (s ||| (sd (reachN n nb s) s) = 2 ^ n - 1) := fun h9 => h1 ((nI_eq (a := s ||| (sd (reachN n nb s) s)) (b := 2 ^ n - 1) (by omega) (by omega)).mpr h9)
    refine wp_go (f' := (19, [.ref 28, .int (nI s)], [.int (nI 0)], MW A B F sw, 0, 0)) 1 rfl ?_
    rw [show bI (nearAllN n nb s) = nI 0 by simp [nearAllN, h1, bIT, bIF, nI1, nI0]]
    exact wp_zret rfl (by first | exact Or.inl rfl | exact Or.inr rfl)
  · have h1 := Classical.not_not.mp h1; have h1 : s ||| (sd (reachN n nb s) s) = 2 ^ n - 1 := (nI_eq (a := s ||| (sd (reachN n nb s) s)) (b := 2 ^ n - 1) (by omega) (by omega)).mp h1
    refine wp_go (f' := (19, [.ref 28, .int (nI s)], [.int (nI 1)], MW A B F sw, 0, 0)) 2 rfl ?_
    rw [show bI (nearAllN n nb s) = nI 1 by simp [nearAllN, h1, bIT, bIF, nI1, nI0]]
    exact wp_zret rfl (by first | exact Or.inl rfl | exact Or.inr rfl)
end MM
