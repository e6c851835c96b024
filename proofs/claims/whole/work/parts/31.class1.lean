/-! THE CLASS: the graph -/
def bc1 (x : Int32) : Int32 := x - ((x.toUInt32 >>> ((nI 1).toUInt32 &&& Int32.toUInt32 31)).toInt32 &&& 1431655765)
def bc2 (x : Int32) : Int32 := (x &&& 858993459) + ((x.toUInt32 >>> ((nI 2).toUInt32 &&& Int32.toUInt32 31)).toInt32 &&& 858993459)
def bc3 (x : Int32) : Int32 := (x + (x.toUInt32 >>> ((nI 4).toUInt32 &&& Int32.toUInt32 31)).toInt32) &&& 252645135
def bc4 (x : Int32) : Int32 := x + (x.toUInt32 >>> ((nI 8).toUInt32 &&& Int32.toUInt32 31)).toInt32
def bc5 (x : Int32) : Int32 := x + (x.toUInt32 >>> ((nI 16).toUInt32 &&& Int32.toUInt32 31)).toInt32
def bcI (x : Int32) : Int32 := bc5 (bc4 (bc3 (bc2 (bc1 x)))) &&& nI 63
set_option maxRecDepth 100000 in
theorem bc_pop : ∀ s, s < 1024 → bcI (nI s) = nI (pop s) := by decide +kernel
theorem bx_low {s : Nat} (hs : s < 1024) (h0 : s ≠ 0) : nI s &&& (-(nI s)) = nI (2 ^ low s) := by
  have h : ∀ s, s < 1024 → s ≠ 0 → nI s &&& (-(nI s)) = nI (2 ^ low s) := by decide +kernel
  exact h s hs h0
/-- what the class's graph holds -/
def CI (A : Nat → Nat → Int32) (F : Nat → Int32) (n : Nat) (nb : Nat → Nat) : Prop := n ≤ 10 ∧ F 0 = nI n ∧ (∀ v, v < 10 → A 2 v = nI (nb v)) ∧ ∀ v, v < 10 → nb v < 1024
def CWt (A : Nat → Nat → Int32) (wt : Nat → Nat) : Prop := ∀ v, v < 10 → A 3 v = nI (wt v) ∧ wt v ≤ 1000
/-- one round of spread -/
def spS (g : Nat → Nat) (s h : Nat) : Nat := h ||| (g h &&& s)
/-- the class's spread: ten rounds -/
def spN (g : Nat → Nat) (s : Nat) : Nat := itN (spS g s) 10 (2 ^ low s)
theorem sp_sub {g : Nat → Nat} {s : Nat} (hs : s < 1024) (h0 : s ≠ 0) : ∀ k i, (itN (spS g s) k (2 ^ low s)).testBit i = true → s.testBit i = true
  | 0, i, h => by
    simp only [itN, Nat.testBit_two_pow] at h
    have : low s = i := by simpa using h
    rw [← this]; exact low_bit hs h0
  | k + 1, i, h => by
    simp only [itN, spS, Nat.testBit_or, Nat.testBit_and, Bool.or_eq_true, Bool.and_eq_true] at h
    rcases h with h | h
    · exact sp_sub hs h0 k i h
    · exact h.2
theorem sub_le {a b : Nat} (h : ∀ i, a.testBit i = true → b.testBit i = true) : a ≤ b := by
  have : a &&& b = a := by
    apply Nat.eq_of_testBit_eq
    intro i
    rw [Nat.testBit_and]
    cases ha : a.testBit i with
    | false => rfl
    | true => rw [h i ha]; rfl
  rw [← this]
  exact Nat.and_le_right
theorem itN_fix2 {f : Nat → Nat} {x k : Nat} (h : f (itN f k x) = itN f k x) : ∀ m, k ≤ m → itN f m x = itN f k x := by
  intro m
  induction m with
  | zero => intro hk; have : k = 0 := by omega
            subst this; rfl
  | succ m ih =>
    intro hk
    by_cases e : k = m + 1
    · rw [e]
    · simp only [itN]
      rw [ih (by omega), h]
section CC
variable {xs : Nat → Int32} {Ls : Nat} {A : Nat → Nat → Int32} {B : Nat → Nat → Int64} {F : Nat → Int32} {sw : Bool} {n : Nat} {nb : Nat → Nat}
theorem ev_bitCountI (x : Int32) (w : mv_W) : mv_Ev xs Ls 1 20 [.int x] w (some (.int (bcI x)), w, 0, 0) := by
  refine ev_of_wp rfl rfl rfl ?_
  refine wp_go (f' := (10, [.int (x - (((x.toUInt32 >>> ((nI 1).toUInt32 &&& Int32.toUInt32 31)).toInt32) &&& 1431655765))], [], w, 0, 0)) 8 rfl ?_
  refine wp_eq (f' := (10, [.int (bc1 x)], [], w, 0, 0)) rfl ?_
  refine wp_go (f' := (24, [.int (((bc1 x) &&& 858993459) + ((((bc1 x).toUInt32 >>> ((nI 2).toUInt32 &&& Int32.toUInt32 31)).toInt32) &&& 858993459))], [], w, 0, 0)) 10 rfl ?_
  refine wp_eq (f' := (24, [.int (bc2 (bc1 x))], [], w, 0, 0)) rfl ?_
  refine wp_go (f' := (34, [.int (((bc2 (bc1 x)) + (((bc2 (bc1 x)).toUInt32 >>> ((nI 4).toUInt32 &&& Int32.toUInt32 31)).toInt32)) &&& 252645135)], [], w, 0, 0)) 8 rfl ?_
  refine wp_eq (f' := (34, [.int (bc3 (bc2 (bc1 x)))], [], w, 0, 0)) rfl ?_
  refine wp_go (f' := (41, [.int ((bc3 (bc2 (bc1 x))) + (((bc3 (bc2 (bc1 x))).toUInt32 >>> ((nI 8).toUInt32 &&& Int32.toUInt32 31)).toInt32))], [], w, 0, 0)) 6 rfl ?_
  refine wp_eq (f' := (41, [.int (bc4 (bc3 (bc2 (bc1 x))))], [], w, 0, 0)) rfl ?_
  refine wp_go (f' := (48, [.int ((bc4 (bc3 (bc2 (bc1 x)))) + (((bc4 (bc3 (bc2 (bc1 x)))).toUInt32 >>> ((nI 16).toUInt32 &&& Int32.toUInt32 31)).toInt32))], [], w, 0, 0)) 6 rfl ?_
  refine wp_eq (f' := (48, [.int (bc5 (bc4 (bc3 (bc2 (bc1 x)))))], [], w, 0, 0)) rfl ?_
  refine wp_go (f' := (52, [.int (bc5 (bc4 (bc3 (bc2 (bc1 x)))))], [.int ((bc5 (bc4 (bc3 (bc2 (bc1 x))))) &&& (nI 63))], w, 0, 0)) 3 rfl ?_
  exact wp_iret rfl
theorem ev_bitCount {s : Nat} (hs : s < 1024) (w : mv_W) : mv_Ev xs Ls 1 20 [.int (nI s)] w (some (.int (nI (pop s))), w, 0, 0) := by
  have h := ev_bitCountI (xs := xs) (Ls := Ls) (nI s) w
  rw [bc_pop s hs] at h
  exact h
theorem ev_low {s : Nat} (hs : s < 1024) (h0 : s ≠ 0) (w : mv_W) : mv_Ev xs Ls 2 19 [.int (nI s)] w (some (.int (nI (low s))), w, 0, 0) := by
  refine ev_of_wp rfl rfl rfl ?_
  have hlw := low_lt hs h0
  refine wp_go (f' := (4, [.int (nI s)], [.int ((nI s) &&& (-(nI s)))], w, 0, 0)) 4 rfl ?_
  rw [bx_low (by omega) (by omega)]
  have hb1 : 2 ^ low s < 1024 := by first | omega | exact or_lt (by omega) (by omega) | exact and_lt (by omega) | exact and_lt_r (by omega) | exact sd_lt (by omega) | exact pow_lt (by omega)
  refine wp_go (f' := (6, [.int (nI s)], [.int ((nI (2 ^ low s)) - (nI 1))], w, 0, 0)) 2 rfl ?_
  rw [pk_sub Nat.one_le_two_pow]
  refine wp_call rfl rfl rfl (ev_up (ev_bitCount (s := 2 ^ low s - 1) (by omega) _) (by decide)) ?_
  refine wp_eq (f' := (9, [.int (nI s)], [.int (nI (pop (2 ^ low s - 1)))], w, 0, 0)) rfl ?_
  have hpp := pop_le (s := 2 ^ low s - 1) (by omega)
  rw [pop_all (by omega)]
  exact wp_iret rfl
theorem ev_gAll (hC : CI A F n nb) : mv_Ev xs Ls 1 18 [.ref 1] (MW A B F sw) (some (.int (nI (2 ^ n - 1))), MW A B F sw, 0, 0) := by
  refine ev_of_wp rfl rfl rfl ?_
  have hn := hC.1
  have hp := pow10 hn
  have hp1 : 1 ≤ 2 ^ n := Nat.one_le_two_pow
  have hal := all_lt hn
  refine wp_go (f' := (5, [.ref 1], [.int (F 0), .int (nI 1)], MW A B F sw, 0, 0)) 3 rfl ?_
  rw [hC.2.1]
  refine wp_go (f' := (6, [.ref 1], [.int ((nI 1) <<< ((nI n) &&& 31))], MW A B F sw, 0, 0)) 1 rfl ?_
  rw [bx_one (by omega)]
  refine wp_go (f' := (8, [.ref 1], [.int ((nI (2 ^ n)) - (nI 1))], MW A B F sw, 0, 0)) 2 rfl ?_
  rw [pk_sub Nat.one_le_two_pow]
  exact wp_iret rfl
theorem isV_has {n : Nat} {v : Int32} (hn : n ≤ 10) : isV v n = (decide (¬ v < 0) && decide (¬ nI n ≤ v)) := by
  cases h : isV v n with
  | true =>
    obtain ⟨a, ha, rfl⟩ := isV_ex hn h
    rw [decide_eq_true (nI_pos (by omega)), decide_eq_true (nI_ge ha (by omega))]; rfl
  | false =>
    cases h2 : (decide (¬ v < 0) && decide (¬ nI n ≤ v)) with
    | false => rfl
    | true =>
      rw [Bool.and_eq_true, decide_eq_true_eq, decide_eq_true_eq] at h2
      obtain ⟨j, hj, rfl⟩ := nI_of h2.1
      have : ¬ n ≤ j := fun h9 => h2.2 (nI_le h9 hj)
      rw [isV_t hn (by omega)] at h; cases h
theorem ev_gHas (hC : CI A F n nb) (v : Int32) : mv_Ev xs Ls 1 9 [.ref 1, .int v] (MW A B F sw) (some (.int (bI (isV v n))), MW A B F sw, 0, 0) := by
  refine ev_of_wp rfl rfl rfl ?_
  have hn := hC.1
  have hp := pow10 hn
  have hp1 : 1 ≤ 2 ^ n := Nat.one_le_two_pow
  have hal := all_lt hn
  refine wp_go (f' := ((if v < 0 then 16 else 4), [.ref 1, .int v], [], MW A B F sw, 0, 0)) 2 rfl ?_
  refine wp_ite (fun h1 => ?_) (fun h1 => ?_)
  · skip
    refine wp_go (f' := (17, [.ref 1, .int v], [.int (nI 0)], MW A B F sw, 0, 0)) 1 rfl ?_
    rw [show isV v n = false by rw [isV_has hn]; simp [h1]]
    exact wp_zret rfl (by first | exact Or.inl rfl | exact Or.inr rfl)
  · skip
    refine wp_go (f' := (9, [.ref 1, .int v], [.int (F 0), .int v], MW A B F sw, 0, 0)) 3 rfl ?_
    rw [hC.2.1]
    refine wp_go (f' := ((if (nI n) ≤ v then 16 else 12), [.ref 1, .int v], [], MW A B F sw, 0, 0)) 1 rfl ?_
    refine wp_ite (fun h2 => ?_) (fun h2 => ?_)
    · skip
      refine wp_go (f' := (17, [.ref 1, .int v], [.int (nI 0)], MW A B F sw, 0, 0)) 1 rfl ?_
      rw [show isV v n = false by rw [isV_has hn]; simp [h1, h2]]
      exact wp_zret rfl (by first | exact Or.inl rfl | exact Or.inr rfl)
    · skip
      refine wp_go (f' := (17, [.ref 1, .int v], [.int (nI 1)], MW A B F sw, 0, 0)) 2 rfl ?_
      rw [show isV v n = true by rw [isV_has hn]; simp [h1, h2]]
      exact wp_zret rfl (by first | exact Or.inl rfl | exact Or.inr rfl)
theorem ev_gLinked (hC : CI A F n nb) {a b : Nat} (ha : a < 10) (hb : b < 10) : mv_Ev xs Ls 1 10 [.ref 1, .int (nI a), .int (nI b)] (MW A B F sw) (some (.int (bI ((nb a).testBit b))), MW A B F sw, 0, 0) := by
  refine ev_of_wp rfl rfl rfl ?_
  have hn := hC.1
  have hp := pow10 hn
  have hp1 : 1 ≤ 2 ^ n := Nat.one_le_two_pow
  have hal := all_lt hn
  refine wp_go (f' := (5, [.ref 1, .int (nI a), .int (nI b)], [.int (nI a), .ref 2], MW A B F sw, 0, 0)) 3 rfl ?_
  refine wp_iald rfl rfl (by omega) (by decide) ?_
  rw [hC.2.2.1 a (by omega)]
  have hnb := hC.2.2.2 a (by omega)
  refine wp_go (f' := (10, [.ref 1, .int (nI a), .int (nI b)], [.int (((nI (nb a)) >>> ((nI b) &&& 31)) &&& (nI 1))], MW A B F sw, 0, 0)) 4 rfl ?_
  rw [bx_bit (by omega) (by omega)]
  refine wp_go (f' := ((if (bI ((nb a).testBit b)) = 0 then 17 else 13), [.ref 1, .int (nI a), .int (nI b)], [], MW A B F sw, 0, 0)) 1 rfl ?_
  refine wp_ite (fun h1 => ?_) (fun h1 => ?_)
  · have h1 := bI_0.mp h1
    refine wp_go (f' := (18, [.ref 1, .int (nI a), .int (nI b)], [.int (nI 0)], MW A B F sw, 0, 0)) 1 rfl ?_
    rw [show bI ((nb a).testBit b) = nI 0 by simp [h1, bIT, bIF, nI1, nI0]]
    exact wp_zret rfl (by first | exact Or.inl rfl | exact Or.inr rfl)
  · have h1 := bI_n0 h1
    refine wp_go (f' := (18, [.ref 1, .int (nI a), .int (nI b)], [.int (nI 1)], MW A B F sw, 0, 0)) 2 rfl ?_
    rw [show bI ((nb a).testBit b) = nI 1 by simp [h1, bIT, bIF, nI1, nI0]]
    exact wp_zret rfl (by first | exact Or.inl rfl | exact Or.inr rfl)
theorem ev_spread4 {g : Nat → Nat} {s : Nat} (hs : s < 1024) (h0 : s ≠ 0) (hg : ∀ t, t ≤ s → A 4 t = nI (g t)) : mv_Ev xs Ls 1 21 [.ref 4, .int (nI s)] (MW A B F sw) (some (.int (nI (spN g s))), MW A B F sw, 0, 0) := by
  refine ev_of_wp rfl rfl rfl ?_
  have hlw := low_lt hs h0
  refine wp_go (f' := (4, [.ref 4, .int (nI s), .retAddr 0, .retAddr 0, .retAddr 0], [.int ((nI s) &&& (-(nI s)))], MW A B F sw, 0, 0)) 4 rfl ?_
  rw [bx_low (by omega) (by omega)]
  have hb1 : 2 ^ low s < 1024 := by first | omega | exact or_lt (by omega) (by omega) | exact and_lt (by omega) | exact and_lt_r (by omega) | exact sd_lt (by omega) | exact pow_lt (by omega)
  refine wp_go (f' := (7, [.ref 4, .int (nI s), .int (nI (2 ^ low s)), .int (nI 0), .retAddr 0], [], MW A B F sw, 0, 0)) 3 rfl ?_
  refine wh_ind (P := fun (k : Nat) => k ≤ 10 → ∀ d4 : Value, mv_Wp xs Ls 0 2 false (some .int) mv_c21 (7, [.ref 4, .int (nI s), .int (nI (itN (spS g s) k (2 ^ low s))), .int (nI k), d4], [], MW A B F sw, 0, 0) (some (.int (nI (spN g s))), MW A B F sw, 0, 0)) (fun k => 10 - k) ?_ 0 (Nat.zero_le _) _
  intro k ih hk d4
  have hle := sub_le (sp_sub (g := g) hs h0 k)
  have hgl := hg (itN (spS g s) k (2 ^ low s)) hle
  have hle2 := sub_le (sp_sub (g := g) hs h0 (k + 1))
  have hgr : (itN (spS g s) k (2 ^ low s)) ||| ((g (itN (spS g s) k (2 ^ low s))) &&& s) ≤ s := hle2
  refine wp_go (f' := ((if (nI 10) ≤ (nI k) then 40 else 13), [.ref 4, .int (nI s), .int (nI (itN (spS g s) k (2 ^ low s))), .int (nI k), d4], [], MW A B F sw, 0, 0)) 3 rfl ?_
  refine wp_ite (fun h1 => ?_) (fun h1 => ?_)
  · have h1 : 10 ≤ k := (nI_leI (a := 10) (b := k) (by omega) (by omega)).mp h1
    refine wp_go (f' := (41, [.ref 4, .int (nI s), .int (nI (itN (spS g s) k (2 ^ low s))), .int (nI k), d4], [.int (nI (itN (spS g s) k (2 ^ low s)))], MW A B F sw, 0, 0)) 1 rfl ?_
    have e : k = 10 := by omega
    subst e
    exact wp_iret rfl
  · have h1 : ¬ (10 ≤ k) := fun h9 => h1 ((nI_leI (a := 10) (b := k) (by omega) (by omega)).mpr h9)
    refine wp_go (f' := (16, [.ref 4, .int (nI s), .int (nI (itN (spS g s) k (2 ^ low s))), .int (nI k), d4], [.int (nI (itN (spS g s) k (2 ^ low s))), .ref 4, .int (nI (itN (spS g s) k (2 ^ low s)))], MW A B F sw, 0, 0)) 3 rfl ?_
    refine wp_iald rfl rfl (by omega) (by decide) ?_
    rw [hgl]
    refine wp_go (f' := (19, [.ref 4, .int (nI s), .int (nI (itN (spS g s) k (2 ^ low s))), .int (nI k), d4], [.int ((nI (g (itN (spS g s) k (2 ^ low s)))) &&& (nI s)), .int (nI (itN (spS g s) k (2 ^ low s)))], MW A B F sw, 0, 0)) 2 rfl ?_
    rw [bx_and]
    refine wp_go (f' := (20, [.ref 4, .int (nI s), .int (nI (itN (spS g s) k (2 ^ low s))), .int (nI k), d4], [.int ((nI (itN (spS g s) k (2 ^ low s))) ||| (nI ((g (itN (spS g s) k (2 ^ low s))) &&& s)))], MW A B F sw, 0, 0)) 1 rfl ?_
    rw [bx_or]
    refine wp_go (f' := ((if ¬ (nI ((itN (spS g s) k (2 ^ low s)) ||| ((g (itN (spS g s) k (2 ^ low s))) &&& s))) = (nI (itN (spS g s) k (2 ^ low s))) then 31 else 28), [.ref 4, .int (nI s), .int (nI (itN (spS g s) k (2 ^ low s))), .int (nI k), .int (nI ((itN (spS g s) k (2 ^ low s)) ||| ((g (itN (spS g s) k (2 ^ low s))) &&& s)))], [], MW A B F sw, 0, 0)) 4 rfl ?_
    refine wp_ite (fun h2 => ?_) (fun h2 => ?_)
    · have h2 : ¬ ((itN (spS g s) k (2 ^ low s)) ||| ((g (itN (spS g s) k (2 ^ low s))) &&& s) = itN (spS g s) k (2 ^ low s)) := fun h9 => h2 ((nI_eq (a := (itN (spS g s) k (2 ^ low s)) ||| ((g (itN (spS g s) k (2 ^ low s))) &&& s)) (b := itN (spS g s) k (2 ^ low s)) (by omega) (by omega)).mpr h9)
      refine wp_go (f' := (37, [.ref 4, .int (nI s), .int (nI ((itN (spS g s) k (2 ^ low s)) ||| ((g (itN (spS g s) k (2 ^ low s))) &&& s))), .int ((nI k) + 1), .int (nI ((itN (spS g s) k (2 ^ low s)) ||| ((g (itN (spS g s) k (2 ^ low s))) &&& s)))], [], MW A B F sw, 0, 0)) 3 rfl ?_
      rw [nI_1]
      refine wp_go (f' := (7, [.ref 4, .int (nI s), .int (nI ((itN (spS g s) k (2 ^ low s)) ||| ((g (itN (spS g s) k (2 ^ low s))) &&& s))), .int (nI (k + 1)), .int (nI ((itN (spS g s) k (2 ^ low s)) ||| ((g (itN (spS g s) k (2 ^ low s))) &&& s)))], [], MW A B F sw, 0, 0)) 1 rfl ?_
      exact ih (k + 1) (by omega) (by omega) (.int (nI ((itN (spS g s) k (2 ^ low s)) ||| ((g (itN (spS g s) k (2 ^ low s))) &&& s))))
    · have h2 := Classical.not_not.mp h2; have h2 : (itN (spS g s) k (2 ^ low s)) ||| ((g (itN (spS g s) k (2 ^ low s))) &&& s) = itN (spS g s) k (2 ^ low s) := (nI_eq (a := (itN (spS g s) k (2 ^ low s)) ||| ((g (itN (spS g s) k (2 ^ low s))) &&& s)) (b := itN (spS g s) k (2 ^ low s)) (by omega) (by omega)).mp h2
      refine wp_go (f' := (41, [.ref 4, .int (nI s), .int (nI (itN (spS g s) k (2 ^ low s))), .int (nI k), .int (nI ((itN (spS g s) k (2 ^ low s)) ||| ((g (itN (spS g s) k (2 ^ low s))) &&& s)))], [.int (nI (itN (spS g s) k (2 ^ low s)))], MW A B F sw, 0, 0)) 2 rfl ?_
      rw [show spN g s = (itN (spS g s) k (2 ^ low s)) from itN_fix2 h2 10 (by omega)]
      exact wp_iret rfl
theorem ev_spread21 {g : Nat → Nat} {s : Nat} (hs : s < 1024) (h0 : s ≠ 0) (hg : ∀ t, t ≤ s → A 21 t = nI (g t)) : mv_Ev xs Ls 1 21 [.ref 21, .int (nI s)] (MW A B F sw) (some (.int (nI (spN g s))), MW A B F sw, 0, 0) := by
  refine ev_of_wp rfl rfl rfl ?_
  have hlw := low_lt hs h0
  refine wp_go (f' := (4, [.ref 21, .int (nI s), .retAddr 0, .retAddr 0, .retAddr 0], [.int ((nI s) &&& (-(nI s)))], MW A B F sw, 0, 0)) 4 rfl ?_
  rw [bx_low (by omega) (by omega)]
  have hb1 : 2 ^ low s < 1024 := by first | omega | exact or_lt (by omega) (by omega) | exact and_lt (by omega) | exact and_lt_r (by omega) | exact sd_lt (by omega) | exact pow_lt (by omega)
  refine wp_go (f' := (7, [.ref 21, .int (nI s), .int (nI (2 ^ low s)), .int (nI 0), .retAddr 0], [], MW A B F sw, 0, 0)) 3 rfl ?_
  refine wh_ind (P := fun (k : Nat) => k ≤ 10 → ∀ d4 : Value, mv_Wp xs Ls 0 2 false (some .int) mv_c21 (7, [.ref 21, .int (nI s), .int (nI (itN (spS g s) k (2 ^ low s))), .int (nI k), d4], [], MW A B F sw, 0, 0) (some (.int (nI (spN g s))), MW A B F sw, 0, 0)) (fun k => 10 - k) ?_ 0 (Nat.zero_le _) _
  intro k ih hk d4
  have hle := sub_le (sp_sub (g := g) hs h0 k)
  have hgl := hg (itN (spS g s) k (2 ^ low s)) hle
  have hle2 := sub_le (sp_sub (g := g) hs h0 (k + 1))
  have hgr : (itN (spS g s) k (2 ^ low s)) ||| ((g (itN (spS g s) k (2 ^ low s))) &&& s) ≤ s := hle2
  refine wp_go (f' := ((if (nI 10) ≤ (nI k) then 40 else 13), [.ref 21, .int (nI s), .int (nI (itN (spS g s) k (2 ^ low s))), .int (nI k), d4], [], MW A B F sw, 0, 0)) 3 rfl ?_
  refine wp_ite (fun h1 => ?_) (fun h1 => ?_)
  · have h1 : 10 ≤ k := (nI_leI (a := 10) (b := k) (by omega) (by omega)).mp h1
    refine wp_go (f' := (41, [.ref 21, .int (nI s), .int (nI (itN (spS g s) k (2 ^ low s))), .int (nI k), d4], [.int (nI (itN (spS g s) k (2 ^ low s)))], MW A B F sw, 0, 0)) 1 rfl ?_
    have e : k = 10 := by omega
    subst e
    exact wp_iret rfl
  · have h1 : ¬ (10 ≤ k) := fun h9 => h1 ((nI_leI (a := 10) (b := k) (by omega) (by omega)).mpr h9)
    refine wp_go (f' := (16, [.ref 21, .int (nI s), .int (nI (itN (spS g s) k (2 ^ low s))), .int (nI k), d4], [.int (nI (itN (spS g s) k (2 ^ low s))), .ref 21, .int (nI (itN (spS g s) k (2 ^ low s)))], MW A B F sw, 0, 0)) 3 rfl ?_
    refine wp_iald rfl rfl (by omega) (by decide) ?_
    rw [hgl]
    refine wp_go (f' := (19, [.ref 21, .int (nI s), .int (nI (itN (spS g s) k (2 ^ low s))), .int (nI k), d4], [.int ((nI (g (itN (spS g s) k (2 ^ low s)))) &&& (nI s)), .int (nI (itN (spS g s) k (2 ^ low s)))], MW A B F sw, 0, 0)) 2 rfl ?_
    rw [bx_and]
    refine wp_go (f' := (20, [.ref 21, .int (nI s), .int (nI (itN (spS g s) k (2 ^ low s))), .int (nI k), d4], [.int ((nI (itN (spS g s) k (2 ^ low s))) ||| (nI ((g (itN (spS g s) k (2 ^ low s))) &&& s)))], MW A B F sw, 0, 0)) 1 rfl ?_
    rw [bx_or]
    refine wp_go (f' := ((if ¬ (nI ((itN (spS g s) k (2 ^ low s)) ||| ((g (itN (spS g s) k (2 ^ low s))) &&& s))) = (nI (itN (spS g s) k (2 ^ low s))) then 31 else 28), [.ref 21, .int (nI s), .int (nI (itN (spS g s) k (2 ^ low s))), .int (nI k), .int (nI ((itN (spS g s) k (2 ^ low s)) ||| ((g (itN (spS g s) k (2 ^ low s))) &&& s)))], [], MW A B F sw, 0, 0)) 4 rfl ?_
    refine wp_ite (fun h2 => ?_) (fun h2 => ?_)
    · have h2 : ¬ ((itN (spS g s) k (2 ^ low s)) ||| ((g (itN (spS g s) k (2 ^ low s))) &&& s) = itN (spS g s) k (2 ^ low s)) := fun h9 => h2 ((nI_eq (a := (itN (spS g s) k (2 ^ low s)) ||| ((g (itN (spS g s) k (2 ^ low s))) &&& s)) (b := itN (spS g s) k (2 ^ low s)) (by omega) (by omega)).mpr h9)
      refine wp_go (f' := (37, [.ref 21, .int (nI s), .int (nI ((itN (spS g s) k (2 ^ low s)) ||| ((g (itN (spS g s) k (2 ^ low s))) &&& s))), .int ((nI k) + 1), .int (nI ((itN (spS g s) k (2 ^ low s)) ||| ((g (itN (spS g s) k (2 ^ low s))) &&& s)))], [], MW A B F sw, 0, 0)) 3 rfl ?_
      rw [nI_1]
      refine wp_go (f' := (7, [.ref 21, .int (nI s), .int (nI ((itN (spS g s) k (2 ^ low s)) ||| ((g (itN (spS g s) k (2 ^ low s))) &&& s))), .int (nI (k + 1)), .int (nI ((itN (spS g s) k (2 ^ low s)) ||| ((g (itN (spS g s) k (2 ^ low s))) &&& s)))], [], MW A B F sw, 0, 0)) 1 rfl ?_
      exact ih (k + 1) (by omega) (by omega) (.int (nI ((itN (spS g s) k (2 ^ low s)) ||| ((g (itN (spS g s) k (2 ^ low s))) &&& s))))
    · have h2 := Classical.not_not.mp h2; have h2 : (itN (spS g s) k (2 ^ low s)) ||| ((g (itN (spS g s) k (2 ^ low s))) &&& s) = itN (spS g s) k (2 ^ low s) := (nI_eq (a := (itN (spS g s) k (2 ^ low s)) ||| ((g (itN (spS g s) k (2 ^ low s))) &&& s)) (b := itN (spS g s) k (2 ^ low s)) (by omega) (by omega)).mp h2
      refine wp_go (f' := (41, [.ref 21, .int (nI s), .int (nI (itN (spS g s) k (2 ^ low s))), .int (nI k), .int (nI ((itN (spS g s) k (2 ^ low s)) ||| ((g (itN (spS g s) k (2 ^ low s))) &&& s)))], [.int (nI (itN (spS g s) k (2 ^ low s)))], MW A B F sw, 0, 0)) 2 rfl ?_
      rw [show spN g s = (itN (spS g s) k (2 ^ low s)) from itN_fix2 h2 10 (by omega)]
      exact wp_iret rfl
end CC
