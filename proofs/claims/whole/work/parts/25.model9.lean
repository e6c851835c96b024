/-- what v sees past those of s -/
def seesN (n : Nat) (nb : Nat → Nat) (s v : Nat) : Nat := sd (reachN n nb (hangN n nb v (s ||| 2 ^ v))) (hangN n nb v (s ||| 2 ^ v))
/-- how many of t are joined to one outside -/
def rowC (n : Nat) (nb : Nat → Nat) (t : Nat) : Nat := forN (fun k m => m + (if t.testBit k = true ∧ ¬ sd (nb k) t = 0 then 1 else 0)) n 0
/-- how many edges leave t -/
def cutC (n : Nat) (nb : Nat → Nat) (t : Nat) : Nat := forN (fun k m => m + (if t.testBit k then pop (sd (nb k) t) else 0)) n 0
/-- the cost of v behind those of s, by kind (0, 1, 3, 4) -/
def costN (n : Nat) (nb : Nat → Nat) (kind s v : Nat) : Nat := match kind with
  | 0 => pop (seesN n nb s v)
  | 1 => rowC n nb (s ||| 2 ^ v)
  | 3 => cutC n nb (s ||| 2 ^ v)
  | _ => pop (sd (seesN n nb s v) (nb v))
theorem seesN_lt {n : Nat} {nb : Nat → Nat} (hn : n ≤ 10) (hb : ∀ v, v < 10 → nb v < 1024) (s v : Nat) : seesN n nb s v < 1024 := sd_lt (reachN_lt hn hb _)
theorem rowC_le {n : Nat} {nb : Nat → Nat} {t : Nat} (hn : n ≤ 10) : rowC n nb t ≤ 10 * n := by
  refine forN_inv (I := fun k (m : Nat) => m ≤ 10 * k) (Nat.le_refl _) (fun k m hk hm => ?_) n (Nat.le_refl _)
  split <;> omega
theorem cutC_le {n : Nat} {nb : Nat → Nat} {t : Nat} (hn : n ≤ 10) (hb : ∀ v, v < 10 → nb v < 1024) : cutC n nb t ≤ 10 * n := by
  refine forN_inv (I := fun k (m : Nat) => m ≤ 10 * k) (Nat.le_refl _) (fun k m hk hm => ?_) n (Nat.le_refl _)
  split
  · have := pop_le (s := sd (nb k) t) (sd_lt (hb k (by omega)))
    omega
  · omega
theorem costN_le {n : Nat} {nb : Nat → Nat} {kind s v : Nat} (hn : n ≤ 10) (hb : ∀ v, v < 10 → nb v < 1024) : costN n nb kind s v ≤ 100 := by
  unfold costN
  split
  · have := pop_le (seesN_lt hn hb s v); omega
  · have := rowC_le (nb := nb) (t := s ||| 2 ^ v) hn; omega
  · have := cutC_le (t := s ||| 2 ^ v) hn hb; omega
  · have := pop_le (sd_lt (b := nb v) (seesN_lt hn hb s v)); omega
section MM
variable {xs : Nat → Int32} {Ls : Nat} {A : Nat → Nat → Int32} {B : Nat → Nat → Int64} {F : Nat → Int32} {sw : Bool} {n : Nat} {nb : Nat → Nat}
theorem ev_sees (hM : MI A F n nb) {s v : Nat} (hs : s < 1024) (hv : v < 10) : mv_Ev xs Ls 2 116 [.ref 28, .int (nI s), .int (nI v)] (MW A B F sw) (some (.int (nI (seesN n nb s v))), MW A B F sw, 0, 0) := by
  refine ev_of_wp rfl rfl rfl ?_
  have hn := hM.1
  refine wp_go (f' := (7, [.ref 28, .int (nI s), .int (nI v)], [.int ((nI 1) <<< ((nI v) &&& 31)), .int (nI s), .int (nI v), .ref 28, .ref 28], MW A B F sw, 0, 0)) 7 rfl ?_
  rw [bx_one (by omega)]
  have hb1 : 2 ^ v < 1024 := by first | omega | exact or_lt (by omega) (by omega) | exact and_lt (by omega) | exact and_lt_r (by omega) | exact sd_lt (by omega) | exact pow_lt (by omega)
  refine wp_go (f' := (8, [.ref 28, .int (nI s), .int (nI v)], [.int ((nI s) ||| (nI (2 ^ v))), .int (nI v), .ref 28, .ref 28], MW A B F sw, 0, 0)) 1 rfl ?_
  rw [bx_or]
  have hb2 : s ||| (2 ^ v) < 1024 := by first | omega | exact or_lt (by omega) (by omega) | exact and_lt (by omega) | exact and_lt_r (by omega) | exact sd_lt (by omega) | exact pow_lt (by omega)
  refine wp_call rfl rfl rfl (ev_up (ev_hang hM (v := v) (s := s ||| (2 ^ v)) (by omega) (by omega)) (by decide)) ?_
  refine wp_eq (f' := (11, [.ref 28, .int (nI s), .int (nI v)], [.int (nI (hangN n nb v (s ||| (2 ^ v)))), .ref 28], MW A B F sw, 0, 0)) rfl ?_
  have hhg := hangN_lt (n := n) (nb := nb) (v := v) (s := s ||| (2 ^ v)) (by omega) (by omega)
  refine wp_call rfl rfl rfl (ev_up (ev_around hM (s := hangN n nb v (s ||| (2 ^ v))) (by omega)) (by decide)) ?_
  refine wp_eq (f' := (14, [.ref 28, .int (nI s), .int (nI v)], [.int (nI (sd (reachN n nb (hangN n nb v (s ||| (2 ^ v)))) (hangN n nb v (s ||| (2 ^ v)))))], MW A B F sw, 0, 0)) rfl ?_
  have hra := sd_lt (b := hangN n nb v (s ||| (2 ^ v))) (reachN_lt hM.1 hM.2.2.2 (hangN n nb v (s ||| (2 ^ v))))
  exact wp_iret rfl
theorem ev_cost0 (hM : MI A F n nb) {s v : Nat} (hs : s < 1024) (hv : v < 10) : mv_Ev xs Ls 3 115 [.ref 28, .int (nI 0), .int (nI s), .int (nI v)] (MW A B F sw) (some (.int (nI (costN n nb 0 s v))), MW A B F sw, 0, 0) := by
  refine ev_of_wp rfl rfl rfl ?_
  have hn := hM.1
  have hp := pow10 hn
  have hp1 : 1 ≤ 2 ^ n := Nat.one_le_two_pow
  have hal := all_lt hn
  refine wp_go (f' := (3, [.ref 28, .int (nI 0), .int (nI s), .int (nI v), .retAddr 0, .retAddr 0, .retAddr 0, .retAddr 0], [.int (nI v), .int (nI s), .ref 28], MW A B F sw, 0, 0)) 3 rfl ?_
  refine wp_call rfl rfl rfl (ev_up (ev_sees hM (s := s) (v := v) (by omega) (by omega)) (by decide)) ?_
  refine wp_eq (f' := (6, [.ref 28, .int (nI 0), .int (nI s), .int (nI v), .retAddr 0, .retAddr 0, .retAddr 0, .retAddr 0], [.int (nI (seesN n nb s v))], MW A B F sw, 0, 0)) rfl ?_
  have hse := seesN_lt hM.1 hM.2.2.2 s v
  refine wp_go (f' := (12, [.ref 28, .int (nI 0), .int (nI s), .int (nI v), .int (nI (seesN n nb s v)), .retAddr 0, .retAddr 0, .retAddr 0], [.int ((nI 1) <<< ((nI v) &&& 31)), .int (nI s)], MW A B F sw, 0, 0)) 5 rfl ?_
  rw [bx_one (by omega)]
  have hb1 : 2 ^ v < 1024 := by first | omega | exact or_lt (by omega) (by omega) | exact and_lt (by omega) | exact and_lt_r (by omega) | exact sd_lt (by omega) | exact pow_lt (by omega)
  refine wp_go (f' := (13, [.ref 28, .int (nI 0), .int (nI s), .int (nI v), .int (nI (seesN n nb s v)), .retAddr 0, .retAddr 0, .retAddr 0], [.int ((nI s) ||| (nI (2 ^ v)))], MW A B F sw, 0, 0)) 1 rfl ?_
  rw [bx_or]
  have hb2 : s ||| (2 ^ v) < 1024 := by first | omega | exact or_lt (by omega) (by omega) | exact and_lt (by omega) | exact and_lt_r (by omega) | exact sd_lt (by omega) | exact pow_lt (by omega)
  refine wp_go (f' := (50, [.ref 28, .int (nI 0), .int (nI s), .int (nI v), .int (nI (seesN n nb s v)), .int (nI (s ||| (2 ^ v))), .int (nI 0), .retAddr 0], [.int (nI (seesN n nb s v))], MW A B F sw, 0, 0)) 6 rfl ?_
  refine wp_call rfl rfl rfl (ev_up (ev_onesN (s := seesN n nb s v) (by omega) _) (by decide)) ?_
  refine wp_eq (f' := (53, [.ref 28, .int (nI 0), .int (nI s), .int (nI v), .int (nI (seesN n nb s v)), .int (nI (s ||| (2 ^ v))), .int (nI 0), .retAddr 0], [.int (nI (pop (seesN n nb s v)))], MW A B F sw, 0, 0)) rfl ?_
  have hpp := pop_le (s := seesN n nb s v) (by omega)
  exact wp_iret rfl
theorem ev_cost1 (hM : MI A F n nb) {s v : Nat} (hs : s < 1024) (hv : v < 10) : mv_Ev xs Ls 3 115 [.ref 28, .int (nI 1), .int (nI s), .int (nI v)] (MW A B F sw) (some (.int (nI (costN n nb 1 s v))), MW A B F sw, 0, 0) := by
  refine ev_of_wp rfl rfl rfl ?_
  have hn := hM.1
  have hp := pow10 hn
  have hp1 : 1 ≤ 2 ^ n := Nat.one_le_two_pow
  have hal := all_lt hn
  refine wp_go (f' := (3, [.ref 28, .int (nI 1), .int (nI s), .int (nI v), .retAddr 0, .retAddr 0, .retAddr 0, .retAddr 0], [.int (nI v), .int (nI s), .ref 28], MW A B F sw, 0, 0)) 3 rfl ?_
  refine wp_call rfl rfl rfl (ev_up (ev_sees hM (s := s) (v := v) (by omega) (by omega)) (by decide)) ?_
  refine wp_eq (f' := (6, [.ref 28, .int (nI 1), .int (nI s), .int (nI v), .retAddr 0, .retAddr 0, .retAddr 0, .retAddr 0], [.int (nI (seesN n nb s v))], MW A B F sw, 0, 0)) rfl ?_
  have hse := seesN_lt hM.1 hM.2.2.2 s v
  refine wp_go (f' := (12, [.ref 28, .int (nI 1), .int (nI s), .int (nI v), .int (nI (seesN n nb s v)), .retAddr 0, .retAddr 0, .retAddr 0], [.int ((nI 1) <<< ((nI v) &&& 31)), .int (nI s)], MW A B F sw, 0, 0)) 5 rfl ?_
  rw [bx_one (by omega)]
  have hb1 : 2 ^ v < 1024 := by first | omega | exact or_lt (by omega) (by omega) | exact and_lt (by omega) | exact and_lt_r (by omega) | exact sd_lt (by omega) | exact pow_lt (by omega)
  refine wp_go (f' := (13, [.ref 28, .int (nI 1), .int (nI s), .int (nI v), .int (nI (seesN n nb s v)), .retAddr 0, .retAddr 0, .retAddr 0], [.int ((nI s) ||| (nI (2 ^ v)))], MW A B F sw, 0, 0)) 1 rfl ?_
  rw [bx_or]
  have hb2 : s ||| (2 ^ v) < 1024 := by first | omega | exact or_lt (by omega) (by omega) | exact and_lt (by omega) | exact and_lt_r (by omega) | exact sd_lt (by omega) | exact pow_lt (by omega)
  refine wp_go (f' := (57, [.ref 28, .int (nI 1), .int (nI s), .int (nI v), .int (nI (seesN n nb s v)), .int (nI (s ||| (2 ^ v))), .int (nI 0), .int (nI 0)], [], MW A B F sw, 0, 0)) 7 rfl ?_
  refine for_ind (P := fun (k : Nat) (m : Nat) => mv_Wp xs Ls 2 6 false (some .int) mv_c115 (57, [.ref 28, .int (nI 1), .int (nI s), .int (nI v), .int (nI (seesN n nb s v)), .int (nI (s ||| (2 ^ v))), .int (nI m), .int (nI k)], [], MW A B F sw, 0, 0) (some (.int (nI (costN n nb 1 s v))), MW A B F sw, 0, 0)) (f := fun k m => m + (if (s ||| 2 ^ v).testBit k = true ∧ ¬ sd (nb k) (s ||| 2 ^ v) = 0 then 1 else 0)) (n := n) ?_ n 0 (Nat.le_refl _) ?_  
  · intro k m hk ih  
    refine wp_go (f' := (63, [.ref 28, .int (nI 1), .int (nI s), .int (nI v), .int (nI (seesN n nb s v)), .int (nI (s ||| (2 ^ v))), .int (nI m), .int (nI k)], [.int (F 6), .int (nI k)], MW A B F sw, 0, 0)) 3 rfl ?_
    rw [hM.2.1]
    refine wp_go (f' := ((if (nI n) ≤ (nI k) then 108 else 66), [.ref 28, .int (nI 1), .int (nI s), .int (nI v), .int (nI (seesN n nb s v)), .int (nI (s ||| (2 ^ v))), .int (nI m), .int (nI k)], [], MW A B F sw, 0, 0)) 1 rfl ?_
    refine wp_ite (fun h9 => absurd h9 (nI_ge hk (by omega))) (fun _ => ?_)
    refine wp_go (f' := (75, [.ref 28, .int (nI 1), .int (nI s), .int (nI v), .int (nI (seesN n nb s v)), .int (nI (s ||| (2 ^ v))), .int (nI m), .int (nI k)], [.int (((nI (s ||| (2 ^ v))) >>> ((nI k) &&& 31)) &&& (nI 1)), .int (nI m)], MW A B F sw, 0, 0)) 6 rfl ?_
    rw [bx_bit (by omega) (by omega)]
    refine wp_go (f' := ((if ¬ (bI ((s ||| (2 ^ v)).testBit k)) = (nI 1) then 98 else 79), [.ref 28, .int (nI 1), .int (nI s), .int (nI v), .int (nI (seesN n nb s v)), .int (nI (s ||| (2 ^ v))), .int (nI m), .int (nI k)], [.int (nI m)], MW A B F sw, 0, 0)) 2 rfl ?_
    refine wp_ite (fun h1 => ?_) (fun h1 => ?_)
    · have h1 := bI_n1 h1
      refine wp_go (f' := (100, [.ref 28, .int (nI 1), .int (nI s), .int (nI v), .int (nI (seesN n nb s v)), .int (nI (s ||| (2 ^ v))), .int (nI m), .int (nI k)], [.int ((nI m) + (nI 0))], MW A B F sw, 0, 0)) 2 rfl ?_
      rw [nI_add]
      refine wp_go (f' := (105, [.ref 28, .int (nI 1), .int (nI s), .int (nI v), .int (nI (seesN n nb s v)), .int (nI (s ||| (2 ^ v))), .int (nI (m + 0)), .int ((nI k) + 1)], [], MW A B F sw, 0, 0)) 2 rfl ?_
      rw [nI_1]
      refine wp_go (f' := (57, [.ref 28, .int (nI 1), .int (nI s), .int (nI v), .int (nI (seesN n nb s v)), .int (nI (s ||| (2 ^ v))), .int (nI (m + 0)), .int (nI (k + 1))], [], MW A B F sw, 0, 0)) 1 rfl ?_
      refine wp_eq ?_ (ih  )
      simp [h1, nI_add]
    · have h1 := Classical.not_not.mp h1; have h1 := bI_1.mp h1
      refine wp_go (f' := (85, [.ref 28, .int (nI 1), .int (nI s), .int (nI v), .int (nI (seesN n nb s v)), .int (nI (s ||| (2 ^ v))), .int (nI m), .int (nI k)], [.int (nI k), .ref 29, .int (nI m)], MW A B F sw, 0, 0)) 3 rfl ?_
      refine wp_iald rfl rfl (by omega) (by decide) ?_
      rw [hM.2.2.1 k (by omega)]
      have hnb := hM.2.2.2 k (by omega)
      refine wp_go (f' := (91, [.ref 28, .int (nI 1), .int (nI s), .int (nI v), .int (nI (seesN n nb s v)), .int (nI (s ||| (2 ^ v))), .int (nI m), .int (nI k)], [.int ((nI (nb k)) &&& ((nI (s ||| (2 ^ v))) ^^^ (-1))), .int (nI m)], MW A B F sw, 0, 0)) 4 rfl ?_
      rw [bx_sd (by omega)]
      have hb1 : sd (nb k) (s ||| (2 ^ v)) < 1024 := by first | omega | exact or_lt (by omega) (by omega) | exact and_lt (by omega) | exact and_lt_r (by omega) | exact sd_lt (by omega) | exact pow_lt (by omega)
      refine wp_go (f' := ((if (nI (sd (nb k) (s ||| (2 ^ v)))) = 0 then 98 else 94), [.ref 28, .int (nI 1), .int (nI s), .int (nI v), .int (nI (seesN n nb s v)), .int (nI (s ||| (2 ^ v))), .int (nI m), .int (nI k)], [.int (nI m)], MW A B F sw, 0, 0)) 1 rfl ?_
      refine wp_ite (fun h2 => ?_) (fun h2 => ?_)
      · have h2 : sd (nb k) (s ||| (2 ^ v)) = 0 := (nI_eq (a := sd (nb k) (s ||| (2 ^ v))) (b := 0) (by omega) (by omega)).mp h2
        refine wp_go (f' := (100, [.ref 28, .int (nI 1), .int (nI s), .int (nI v), .int (nI (seesN n nb s v)), .int (nI (s ||| (2 ^ v))), .int (nI m), .int (nI k)], [.int ((nI m) + (nI 0))], MW A B F sw, 0, 0)) 2 rfl ?_
        rw [nI_add]
        refine wp_go (f' := (105, [.ref 28, .int (nI 1), .int (nI s), .int (nI v), .int (nI (seesN n nb s v)), .int (nI (s ||| (2 ^ v))), .int (nI (m + 0)), .int ((nI k) + 1)], [], MW A B F sw, 0, 0)) 2 rfl ?_
        rw [nI_1]
        refine wp_go (f' := (57, [.ref 28, .int (nI 1), .int (nI s), .int (nI v), .int (nI (seesN n nb s v)), .int (nI (s ||| (2 ^ v))), .int (nI (m + 0)), .int (nI (k + 1))], [], MW A B F sw, 0, 0)) 1 rfl ?_
        refine wp_eq ?_ (ih  )
        simp [h1, h2, nI_add]
      · have h2 : ¬ (sd (nb k) (s ||| (2 ^ v)) = 0) := fun h9 => h2 ((nI_eq (a := sd (nb k) (s ||| (2 ^ v))) (b := 0) (by omega) (by omega)).mpr h9)
        refine wp_go (f' := (100, [.ref 28, .int (nI 1), .int (nI s), .int (nI v), .int (nI (seesN n nb s v)), .int (nI (s ||| (2 ^ v))), .int (nI m), .int (nI k)], [.int ((nI m) + (nI 1))], MW A B F sw, 0, 0)) 3 rfl ?_
        rw [nI_add]
        refine wp_go (f' := (105, [.ref 28, .int (nI 1), .int (nI s), .int (nI v), .int (nI (seesN n nb s v)), .int (nI (s ||| (2 ^ v))), .int (nI (m + 1)), .int ((nI k) + 1)], [], MW A B F sw, 0, 0)) 2 rfl ?_
        rw [nI_1]
        refine wp_go (f' := (57, [.ref 28, .int (nI 1), .int (nI s), .int (nI v), .int (nI (seesN n nb s v)), .int (nI (s ||| (2 ^ v))), .int (nI (m + 1)), .int (nI (k + 1))], [], MW A B F sw, 0, 0)) 1 rfl ?_
        refine wp_eq ?_ (ih  )
        simp [h1, h2, nI_add]
  · skip
    refine wp_go (f' := (63, [.ref 28, .int (nI 1), .int (nI s), .int (nI v), .int (nI (seesN n nb s v)), .int (nI (s ||| (2 ^ v))), .int (nI (rowC n nb (s ||| 2 ^ v))), .int (nI n)], [.int (F 6), .int (nI n)], MW A B F sw, 0, 0)) 3 rfl ?_
    rw [hM.2.1]
    refine wp_go (f' := ((if (nI n) ≤ (nI n) then 108 else 66), [.ref 28, .int (nI 1), .int (nI s), .int (nI v), .int (nI (seesN n nb s v)), .int (nI (s ||| (2 ^ v))), .int (nI (rowC n nb (s ||| 2 ^ v))), .int (nI n)], [], MW A B F sw, 0, 0)) 1 rfl ?_
    refine wp_ite (fun _ => ?_) (fun h9 => absurd (nI_le (Nat.le_refl _) (by omega)) h9)
    refine wp_go (f' := (110, [.ref 28, .int (nI 1), .int (nI s), .int (nI v), .int (nI (seesN n nb s v)), .int (nI (s ||| (2 ^ v))), .int (nI (rowC n nb (s ||| 2 ^ v))), .int (nI n)], [.int (nI (rowC n nb (s ||| 2 ^ v)))], MW A B F sw, 0, 0)) 1 rfl ?_
    exact wp_iret rfl
theorem ev_cost3 (hM : MI A F n nb) {s v : Nat} (hs : s < 1024) (hv : v < 10) : mv_Ev xs Ls 3 115 [.ref 28, .int (nI 3), .int (nI s), .int (nI v)] (MW A B F sw) (some (.int (nI (costN n nb 3 s v))), MW A B F sw, 0, 0) := by
  refine ev_of_wp rfl rfl rfl ?_
  have hn := hM.1
  have hp := pow10 hn
  have hp1 : 1 ≤ 2 ^ n := Nat.one_le_two_pow
  have hal := all_lt hn
  refine wp_go (f' := (3, [.ref 28, .int (nI 3), .int (nI s), .int (nI v), .retAddr 0, .retAddr 0, .retAddr 0, .retAddr 0], [.int (nI v), .int (nI s), .ref 28], MW A B F sw, 0, 0)) 3 rfl ?_
  refine wp_call rfl rfl rfl (ev_up (ev_sees hM (s := s) (v := v) (by omega) (by omega)) (by decide)) ?_
  refine wp_eq (f' := (6, [.ref 28, .int (nI 3), .int (nI s), .int (nI v), .retAddr 0, .retAddr 0, .retAddr 0, .retAddr 0], [.int (nI (seesN n nb s v))], MW A B F sw, 0, 0)) rfl ?_
  have hse := seesN_lt hM.1 hM.2.2.2 s v
  refine wp_go (f' := (12, [.ref 28, .int (nI 3), .int (nI s), .int (nI v), .int (nI (seesN n nb s v)), .retAddr 0, .retAddr 0, .retAddr 0], [.int ((nI 1) <<< ((nI v) &&& 31)), .int (nI s)], MW A B F sw, 0, 0)) 5 rfl ?_
  rw [bx_one (by omega)]
  have hb1 : 2 ^ v < 1024 := by first | omega | exact or_lt (by omega) (by omega) | exact and_lt (by omega) | exact and_lt_r (by omega) | exact sd_lt (by omega) | exact pow_lt (by omega)
  refine wp_go (f' := (13, [.ref 28, .int (nI 3), .int (nI s), .int (nI v), .int (nI (seesN n nb s v)), .retAddr 0, .retAddr 0, .retAddr 0], [.int ((nI s) ||| (nI (2 ^ v)))], MW A B F sw, 0, 0)) 1 rfl ?_
  rw [bx_or]
  have hb2 : s ||| (2 ^ v) < 1024 := by first | omega | exact or_lt (by omega) (by omega) | exact and_lt (by omega) | exact and_lt_r (by omega) | exact sd_lt (by omega) | exact pow_lt (by omega)
  refine wp_go (f' := (114, [.ref 28, .int (nI 3), .int (nI s), .int (nI v), .int (nI (seesN n nb s v)), .int (nI (s ||| (2 ^ v))), .int (nI 0), .int (nI 0)], [], MW A B F sw, 0, 0)) 7 rfl ?_
  refine for_ind (P := fun (k : Nat) (m : Nat) => mv_Wp xs Ls 2 6 false (some .int) mv_c115 (114, [.ref 28, .int (nI 3), .int (nI s), .int (nI v), .int (nI (seesN n nb s v)), .int (nI (s ||| (2 ^ v))), .int (nI m), .int (nI k)], [], MW A B F sw, 0, 0) (some (.int (nI (costN n nb 3 s v))), MW A B F sw, 0, 0)) (f := fun k m => m + (if (s ||| 2 ^ v).testBit k then pop (sd (nb k) (s ||| 2 ^ v)) else 0)) (n := n) ?_ n 0 (Nat.le_refl _) ?_  
  · intro k m hk ih  
    refine wp_go (f' := (120, [.ref 28, .int (nI 3), .int (nI s), .int (nI v), .int (nI (seesN n nb s v)), .int (nI (s ||| (2 ^ v))), .int (nI m), .int (nI k)], [.int (F 6), .int (nI k)], MW A B F sw, 0, 0)) 3 rfl ?_
    rw [hM.2.1]
    refine wp_go (f' := ((if (nI n) ≤ (nI k) then 164 else 123), [.ref 28, .int (nI 3), .int (nI s), .int (nI v), .int (nI (seesN n nb s v)), .int (nI (s ||| (2 ^ v))), .int (nI m), .int (nI k)], [], MW A B F sw, 0, 0)) 1 rfl ?_
    refine wp_ite (fun h9 => absurd h9 (nI_ge hk (by omega))) (fun _ => ?_)
    refine wp_go (f' := (132, [.ref 28, .int (nI 3), .int (nI s), .int (nI v), .int (nI (seesN n nb s v)), .int (nI (s ||| (2 ^ v))), .int (nI m), .int (nI k)], [.int (((nI (s ||| (2 ^ v))) >>> ((nI k) &&& 31)) &&& (nI 1)), .int (nI m)], MW A B F sw, 0, 0)) 6 rfl ?_
    rw [bx_bit (by omega) (by omega)]
    refine wp_go (f' := ((if ¬ (bI ((s ||| (2 ^ v)).testBit k)) = (nI 1) then 154 else 136), [.ref 28, .int (nI 3), .int (nI s), .int (nI v), .int (nI (seesN n nb s v)), .int (nI (s ||| (2 ^ v))), .int (nI m), .int (nI k)], [.int (nI m)], MW A B F sw, 0, 0)) 2 rfl ?_
    refine wp_ite (fun h1 => ?_) (fun h1 => ?_)
    · have h1 := bI_n1 h1
      refine wp_go (f' := (156, [.ref 28, .int (nI 3), .int (nI s), .int (nI v), .int (nI (seesN n nb s v)), .int (nI (s ||| (2 ^ v))), .int (nI m), .int (nI k)], [.int ((nI m) + (nI 0))], MW A B F sw, 0, 0)) 2 rfl ?_
      rw [nI_add]
      refine wp_go (f' := (161, [.ref 28, .int (nI 3), .int (nI s), .int (nI v), .int (nI (seesN n nb s v)), .int (nI (s ||| (2 ^ v))), .int (nI (m + 0)), .int ((nI k) + 1)], [], MW A B F sw, 0, 0)) 2 rfl ?_
      rw [nI_1]
      refine wp_go (f' := (114, [.ref 28, .int (nI 3), .int (nI s), .int (nI v), .int (nI (seesN n nb s v)), .int (nI (s ||| (2 ^ v))), .int (nI (m + 0)), .int (nI (k + 1))], [], MW A B F sw, 0, 0)) 1 rfl ?_
      refine wp_eq ?_ (ih  )
      simp [h1, nI_add]
    · have h1 := Classical.not_not.mp h1; have h1 := bI_1.mp h1
      refine wp_go (f' := (142, [.ref 28, .int (nI 3), .int (nI s), .int (nI v), .int (nI (seesN n nb s v)), .int (nI (s ||| (2 ^ v))), .int (nI m), .int (nI k)], [.int (nI k), .ref 29, .int (nI m)], MW A B F sw, 0, 0)) 3 rfl ?_
      refine wp_iald rfl rfl (by omega) (by decide) ?_
      rw [hM.2.2.1 k (by omega)]
      have hnb := hM.2.2.2 k (by omega)
      refine wp_go (f' := (148, [.ref 28, .int (nI 3), .int (nI s), .int (nI v), .int (nI (seesN n nb s v)), .int (nI (s ||| (2 ^ v))), .int (nI m), .int (nI k)], [.int ((nI (nb k)) &&& ((nI (s ||| (2 ^ v))) ^^^ (-1))), .int (nI m)], MW A B F sw, 0, 0)) 4 rfl ?_
      rw [bx_sd (by omega)]
      have hb1 : sd (nb k) (s ||| (2 ^ v)) < 1024 := by first | omega | exact or_lt (by omega) (by omega) | exact and_lt (by omega) | exact and_lt_r (by omega) | exact sd_lt (by omega) | exact pow_lt (by omega)
      refine wp_call rfl rfl rfl (ev_up (ev_onesN (s := sd (nb k) (s ||| (2 ^ v))) (by omega) _) (by decide)) ?_
      refine wp_eq (f' := (151, [.ref 28, .int (nI 3), .int (nI s), .int (nI v), .int (nI (seesN n nb s v)), .int (nI (s ||| (2 ^ v))), .int (nI m), .int (nI k)], [.int (nI (pop (sd (nb k) (s ||| (2 ^ v))))), .int (nI m)], MW A B F sw, 0, 0)) rfl ?_
      have hpp := pop_le (s := sd (nb k) (s ||| (2 ^ v))) (by omega)
      refine wp_go (f' := (156, [.ref 28, .int (nI 3), .int (nI s), .int (nI v), .int (nI (seesN n nb s v)), .int (nI (s ||| (2 ^ v))), .int (nI m), .int (nI k)], [.int ((nI m) + (nI (pop (sd (nb k) (s ||| (2 ^ v))))))], MW A B F sw, 0, 0)) 2 rfl ?_
      rw [nI_add]
      refine wp_go (f' := (161, [.ref 28, .int (nI 3), .int (nI s), .int (nI v), .int (nI (seesN n nb s v)), .int (nI (s ||| (2 ^ v))), .int (nI (m + (pop (sd (nb k) (s ||| (2 ^ v)))))), .int ((nI k) + 1)], [], MW A B F sw, 0, 0)) 2 rfl ?_
      rw [nI_1]
      refine wp_go (f' := (114, [.ref 28, .int (nI 3), .int (nI s), .int (nI v), .int (nI (seesN n nb s v)), .int (nI (s ||| (2 ^ v))), .int (nI (m + (pop (sd (nb k) (s ||| (2 ^ v)))))), .int (nI (k + 1))], [], MW A B F sw, 0, 0)) 1 rfl ?_
      refine wp_eq ?_ (ih  )
      simp [h1, nI_add]
  · skip
    refine wp_go (f' := (120, [.ref 28, .int (nI 3), .int (nI s), .int (nI v), .int (nI (seesN n nb s v)), .int (nI (s ||| (2 ^ v))), .int (nI (cutC n nb (s ||| 2 ^ v))), .int (nI n)], [.int (F 6), .int (nI n)], MW A B F sw, 0, 0)) 3 rfl ?_
    rw [hM.2.1]
    refine wp_go (f' := ((if (nI n) ≤ (nI n) then 164 else 123), [.ref 28, .int (nI 3), .int (nI s), .int (nI v), .int (nI (seesN n nb s v)), .int (nI (s ||| (2 ^ v))), .int (nI (cutC n nb (s ||| 2 ^ v))), .int (nI n)], [], MW A B F sw, 0, 0)) 1 rfl ?_
    refine wp_ite (fun _ => ?_) (fun h9 => absurd (nI_le (Nat.le_refl _) (by omega)) h9)
    refine wp_go (f' := (166, [.ref 28, .int (nI 3), .int (nI s), .int (nI v), .int (nI (seesN n nb s v)), .int (nI (s ||| (2 ^ v))), .int (nI (cutC n nb (s ||| 2 ^ v))), .int (nI n)], [.int (nI (cutC n nb (s ||| 2 ^ v)))], MW A B F sw, 0, 0)) 1 rfl ?_
    exact wp_iret rfl
theorem ev_cost4 (hM : MI A F n nb) {s v : Nat} (hs : s < 1024) (hv : v < 10) : mv_Ev xs Ls 3 115 [.ref 28, .int (nI 4), .int (nI s), .int (nI v)] (MW A B F sw) (some (.int (nI (costN n nb 4 s v))), MW A B F sw, 0, 0) := by
  refine ev_of_wp rfl rfl rfl ?_
  have hn := hM.1
  have hp := pow10 hn
  have hp1 : 1 ≤ 2 ^ n := Nat.one_le_two_pow
  have hal := all_lt hn
  refine wp_go (f' := (3, [.ref 28, .int (nI 4), .int (nI s), .int (nI v), .retAddr 0, .retAddr 0, .retAddr 0, .retAddr 0], [.int (nI v), .int (nI s), .ref 28], MW A B F sw, 0, 0)) 3 rfl ?_
  refine wp_call rfl rfl rfl (ev_up (ev_sees hM (s := s) (v := v) (by omega) (by omega)) (by decide)) ?_
  refine wp_eq (f' := (6, [.ref 28, .int (nI 4), .int (nI s), .int (nI v), .retAddr 0, .retAddr 0, .retAddr 0, .retAddr 0], [.int (nI (seesN n nb s v))], MW A B F sw, 0, 0)) rfl ?_
  have hse := seesN_lt hM.1 hM.2.2.2 s v
  refine wp_go (f' := (12, [.ref 28, .int (nI 4), .int (nI s), .int (nI v), .int (nI (seesN n nb s v)), .retAddr 0, .retAddr 0, .retAddr 0], [.int ((nI 1) <<< ((nI v) &&& 31)), .int (nI s)], MW A B F sw, 0, 0)) 5 rfl ?_
  rw [bx_one (by omega)]
  have hb1 : 2 ^ v < 1024 := by first | omega | exact or_lt (by omega) (by omega) | exact and_lt (by omega) | exact and_lt_r (by omega) | exact sd_lt (by omega) | exact pow_lt (by omega)
  refine wp_go (f' := (13, [.ref 28, .int (nI 4), .int (nI s), .int (nI v), .int (nI (seesN n nb s v)), .retAddr 0, .retAddr 0, .retAddr 0], [.int ((nI s) ||| (nI (2 ^ v)))], MW A B F sw, 0, 0)) 1 rfl ?_
  rw [bx_or]
  have hb2 : s ||| (2 ^ v) < 1024 := by first | omega | exact or_lt (by omega) (by omega) | exact and_lt (by omega) | exact and_lt_r (by omega) | exact sd_lt (by omega) | exact pow_lt (by omega)
  refine wp_go (f' := (174, [.ref 28, .int (nI 4), .int (nI s), .int (nI v), .int (nI (seesN n nb s v)), .int (nI (s ||| (2 ^ v))), .int (nI 0), .retAddr 0], [.int (nI v), .ref 29, .int (nI (seesN n nb s v))], MW A B F sw, 0, 0)) 9 rfl ?_
  refine wp_iald rfl rfl (by omega) (by decide) ?_
  rw [hM.2.2.1 v (by omega)]
  have hnb := hM.2.2.2 v (by omega)
  refine wp_go (f' := (178, [.ref 28, .int (nI 4), .int (nI s), .int (nI v), .int (nI (seesN n nb s v)), .int (nI (s ||| (2 ^ v))), .int (nI 0), .retAddr 0], [.int ((nI (seesN n nb s v)) &&& ((nI (nb v)) ^^^ (-1)))], MW A B F sw, 0, 0)) 3 rfl ?_
  rw [bx_sd (by omega)]
  have hb3 : sd (seesN n nb s v) (nb v) < 1024 := by first | omega | exact or_lt (by omega) (by omega) | exact and_lt (by omega) | exact and_lt_r (by omega) | exact sd_lt (by omega) | exact pow_lt (by omega)
  refine wp_call rfl rfl rfl (ev_up (ev_onesN (s := sd (seesN n nb s v) (nb v)) (by omega) _) (by decide)) ?_
  refine wp_eq (f' := (181, [.ref 28, .int (nI 4), .int (nI s), .int (nI v), .int (nI (seesN n nb s v)), .int (nI (s ||| (2 ^ v))), .int (nI 0), .retAddr 0], [.int (nI (pop (sd (seesN n nb s v) (nb v))))], MW A B F sw, 0, 0)) rfl ?_
  have hpp := pop_le (s := sd (seesN n nb s v) (nb v)) (by omega)
  exact wp_iret rfl
theorem ev_cost {kind : Nat} (hk : kind = 0 ∨ kind = 1 ∨ kind = 3 ∨ kind = 4) (hM : MI A F n nb) {s v : Nat} (hs : s < 1024) (hv : v < 10) : mv_Ev xs Ls 3 115 [.ref 28, .int (nI kind), .int (nI s), .int (nI v)] (MW A B F sw) (some (.int (nI (costN n nb kind s v))), MW A B F sw, 0, 0) := by
  rcases hk with rfl | rfl | rfl | rfl
  · exact ev_cost0 hM hs hv
  · exact ev_cost1 hM hs hv
  · exact ev_cost3 hM hs hv
  · exact ev_cost4 hM hs hv
end MM
