theorem next_comb {n : Nat} {nb : Nat → Nat} {kind s left v : Nat} : nextN n nb kind s left v = (!(s.testBit v) && decide (comb kind (costN n nb kind s v) (bbN n nb kind (s ||| 2 ^ v)) ≤ left)) := by
  unfold nextN comb
  by_cases hk : kind = 4
  · rw [if_pos hk, if_pos hk]
  · rw [if_neg hk, if_neg hk]
    congr 1
    rw [← Bool.decide_and]
    refine decide_eq_decide.mpr ?_
    split <;> omega
section CC
variable {xs : Nat → Int32} {Ls : Nat} {A : Nat → Nat → Int32} {B : Nat → Nat → Int64} {F : Nat → Int32} {sw : Bool} {n : Nat} {nb : Nat → Nat}
theorem ev_layL0 (hC : CI A F n nb) (hR : RI A n nb) {ed : Nat} (hE : F 1 = nI ed) (hQ : CEd n nb ed) (hq : CQ n nb ed 0) (hT : ∀ j, j < 2 ^ n → A 16 j = nI (bbN n nb 0 j)) : mv_Ev xs Ls 5 46 [.ref 7, .int (nI 0), .ref 9] (MW A B F sw) (some (.int (nI (bbN n nb 0 0))), MW (upA A 9 (layN n nb 0 (A 9)).2.2) B F sw, 0, 0) := by
  refine ev_of_wp rfl rfl rfl ?_
  have hn := hC.1
  have hp := pow10 hn
  have hp1 : 1 ≤ 2 ^ n := Nat.one_le_two_pow
  have hal := all_lt hn
  have hsm := bbN_lt (nb := nb) (kind := 0) (s := 0) hC.1 hC.2.2.2 (by omega)
  refine wp_go (f' := (7, [.ref 7, .int (nI 0), .ref 9, .int (nI 0), .retAddr 0, .retAddr 0, .retAddr 0], [.int (nI 0), .ref 16], MW A B F sw, 0, 0)) 5 rfl ?_
  refine wp_iald rfl rfl (by omega) (by decide) ?_
  rw [hT 0 (by omega)]
  refine wp_go (f' := (13, [.ref 7, .int (nI 0), .ref 9, .int (nI 0), .int (nI (bbN n nb 0 0)), .int (nI 0), .retAddr 0], [], MW A B F sw, 0, 0)) 3 rfl ?_
  refine wp_eq (f' := (13, [.ref 7, .int (nI 0), .ref 9, .int (nI 0), .int (nI (bbN n nb 0 0)), .int (nI 0), .retAddr 0], [], MW (upA A 9 (A 9)) B F sw, 0, 0)) rfl ?_
  refine for_ind (P := fun (k : Nat) (q : Nat × Nat × (Nat → Int32)) => (q.1 < 2 ^ n ∧ bbN n nb 0 q.1 ≤ q.2.1 ∧ q.2.1 ≤ 100 ∧ pop q.1 = k) → ∀ d6 : Value, mv_Wp xs Ls 4 4 false (some .int) mv_c46 (13, [.ref 7, .int (nI 0), .ref 9, .int (nI q.1), .int (nI q.2.1), .int (nI k), d6], [], MW (upA A 9 q.2.2) B F sw, 0, 0) (some (.int (nI (bbN n nb 0 0))), MW (upA A 9 (layN n nb 0 (A 9)).2.2) B F sw, 0, 0)) (f := layS n nb 0) (n := n) ?_ n (0, bbN n nb 0 0, A 9) (Nat.le_refl _) ?_ ⟨by omega, Nat.le_refl _, hsm, (by show pop 0 = 0; decide)⟩ _
  · intro k q hk ih hq9 d6
    obtain ⟨q1, q2, q3⟩ := q
    dsimp only at hq9 ih ⊢
    obtain ⟨i1, i2, i3, i4⟩ := hq9
    have hC2 : CI (upA A 9 q3) F n nb := hC
    have hR2 : RI (upA A 9 q3) n nb := hR
    have hne : q1 ≠ 2 ^ n - 1 := fun e => by rw [e, pop_all hn] at i4; omega
    obtain ⟨v1, v2, v3⟩ := next_ex (nb := nb) (kind := 0) i1 hne i2 (by omega)
    obtain ⟨w1, w2, w3, w4⟩ := firstV_ok (p := nextN n nb 0 q1 q2) n 0 v1 (Nat.zero_le _) (by omega) v3
    change pickV n nb 0 q1 q2 < 0 + n at w1
    change nextN n nb 0 q1 q2 (pickV n nb 0 q1 q2) = true at w2
    change ∀ w, 0 ≤ w → w < pickV n nb 0 q1 q2 → nextN n nb 0 q1 q2 w = false at w4
    refine wp_go (f' := (22, [.ref 7, .int (nI 0), .ref 9, .int (nI q1), .int (nI q2), .int (nI k), d6], [.int (F 0), .int (nI k)], MW (upA A 9 q3) B F sw, 0, 0)) 4 rfl ?_
    rw [hC.2.1]
    refine wp_go (f' := ((if (nI n) ≤ (nI k) then 107 else 25), [.ref 7, .int (nI 0), .ref 9, .int (nI q1), .int (nI q2), .int (nI k), d6], [], MW (upA A 9 q3) B F sw, 0, 0)) 1 rfl ?_
    refine wp_ite (fun h9 => absurd h9 (nI_ge hk (by omega))) (fun _ => ?_)
    refine wp_go (f' := (28, [.ref 7, .int (nI 0), .ref 9, .int (nI q1), .int (nI q2), .int (nI k), .int (nI 0)], [], MW (upA A 9 q3) B F sw, 0, 0)) 2 rfl ?_
    refine wh_ind (P := fun (v : Nat) => v ≤ (pickV n nb 0 q1 q2) → mv_Wp xs Ls 4 4 false (some .int) mv_c46 (28, [.ref 7, .int (nI 0), .ref 9, .int (nI q1), .int (nI q2), .int (nI k), .int (nI v)], [], MW (upA A 9 q3) B F sw, 0, 0) (some (.int (nI (bbN n nb 0 0))), MW (upA A 9 (layN n nb 0 (A 9)).2.2) B F sw, 0, 0)) (fun v => n - v) ?_ 0 (Nat.zero_le _)
    intro v ih2 hv
    refine wp_go (f' := (37, [.ref 7, .int (nI 0), .ref 9, .int (nI q1), .int (nI q2), .int (nI k), .int (nI v)], [.int (F 0), .int (nI v)], MW (upA A 9 q3) B F sw, 0, 0)) 4 rfl ?_
    rw [hC.2.1]
    refine wp_go (f' := (39, [.ref 7, .int (nI 0), .ref 9, .int (nI q1), .int (nI q2), .int (nI k), .int (nI v)], [.int ((nI n) - (nI 1)), .int (nI v)], MW (upA A 9 q3) B F sw, 0, 0)) 2 rfl ?_
    rw [pk_sub (by omega)]
    refine wp_go (f' := ((if (nI (n - 1)) ≤ (nI v) then 70 else 42), [.ref 7, .int (nI 0), .ref 9, .int (nI q1), .int (nI q2), .int (nI k), .int (nI v)], [], MW (upA A 9 q3) B F sw, 0, 0)) 1 rfl ?_
    refine wp_ite (fun h1 => ?_) (fun h1 => ?_)
    · have h1 : n - 1 ≤ v := (nI_leI (a := n - 1) (b := v) (by omega) (by omega)).mp h1
      have h9 : v = (pickV n nb 0 q1 q2) := by
        omega
      rw [h9]
      have hpv : (pickV n nb 0 q1 q2) < n := by omega
      have hnx : bbN n nb 0 (q1 ||| 2 ^ (pickV n nb 0 q1 q2)) ≤ (if 0 = 4 then q2 - costN n nb 0 q1 (pickV n nb 0 q1 q2) else q2) ∧ (0 = 4 → costN n nb 0 q1 (pickV n nb 0 q1 q2) ≤ q2) ∧ q1.testBit (pickV n nb 0 q1 q2) = false := by
        have h7 := w2
        unfold nextN at h7
        simp at h7
        simp
        refine ⟨?_, ?_⟩ <;> (first | omega | simp_all)
      obtain ⟨hnx, hcl, hb9⟩ := hnx
      refine wp_go (f' := ((if ¬ (nI 0) = (nI 4) then 88 else 75), [.ref 7, .int (nI 0), .ref 9, .int (nI q1), .int (nI q2), .int (nI k), .int (nI (pickV n nb 0 q1 q2))], [], MW (upA A 9 q3) B F sw, 0, 0)) 3 rfl ?_
      refine wp_ite (fun _ => ?_) (fun h9 => absurd (by decide : ¬ nI 0 = nI 4) h9)
      refine wp_go (f' := (93, [.ref 7, .int (nI 0), .ref 9, .int (nI q1), .int (nI q2), .int (nI k), .int (nI (pickV n nb 0 q1 q2))], [.int (nI (pickV n nb 0 q1 q2)), .int (nI k), .ref 9], MW (upA A 9 q3) B F sw, 0, 0)) 3 rfl ?_
      refine wp_iast rfl rfl (by omega) (by decide) ?_
      refine wp_eq (f' := (94, [.ref 7, .int (nI 0), .ref 9, .int (nI q1), .int (nI q2), .int (nI k), .int (nI (pickV n nb 0 q1 q2))], [], MW (upA A 9 (upd q3 k (nI (pickV n nb 0 q1 q2)))) B F sw, 0, 0)) rfl ?_
      refine wp_go (f' := (99, [.ref 7, .int (nI 0), .ref 9, .int (nI q1), .int (nI q2), .int (nI k), .int (nI (pickV n nb 0 q1 q2))], [.int ((nI 1) <<< ((nI (pickV n nb 0 q1 q2)) &&& 31)), .int (nI q1)], MW (upA A 9 (upd q3 k (nI (pickV n nb 0 q1 q2)))) B F sw, 0, 0)) 4 rfl ?_
      rw [bx_one (by omega)]
      refine wp_go (f' := (100, [.ref 7, .int (nI 0), .ref 9, .int (nI q1), .int (nI q2), .int (nI k), .int (nI (pickV n nb 0 q1 q2))], [.int ((nI q1) ||| (nI (2 ^ (pickV n nb 0 q1 q2))))], MW (upA A 9 (upd q3 k (nI (pickV n nb 0 q1 q2)))) B F sw, 0, 0)) 1 rfl ?_
      rw [bx_or]
      refine wp_go (f' := (104, [.ref 7, .int (nI 0), .ref 9, .int (nI (q1 ||| (2 ^ (pickV n nb 0 q1 q2)))), .int (nI q2), .int ((nI k) + 1), .int (nI (pickV n nb 0 q1 q2))], [], MW (upA A 9 (upd q3 k (nI (pickV n nb 0 q1 q2)))) B F sw, 0, 0)) 2 rfl ?_
      rw [nI_1]
      refine wp_go (f' := (13, [.ref 7, .int (nI 0), .ref 9, .int (nI (q1 ||| (2 ^ (pickV n nb 0 q1 q2)))), .int (nI q2), .int (nI (k + 1)), .int (nI (pickV n nb 0 q1 q2))], [], MW (upA A 9 (upd q3 k (nI (pickV n nb 0 q1 q2)))) B F sw, 0, 0)) 1 rfl ?_
      have h8 := ih ?_ (.int (nI (pickV n nb 0 q1 q2)))
      · exact h8
      · unfold layS
        dsimp only
        refine ⟨or_ltn i1 (by omega), hnx, i3, ?_⟩
        rw [pop_or (by omega) (by omega) hb9]; omega
    · have h1 : ¬ (n - 1 ≤ v) := fun h9 => h1 ((nI_leI (a := n - 1) (b := v) (by omega) (by omega)).mpr h9)
      refine wp_go (f' := (48, [.ref 7, .int (nI 0), .ref 9, .int (nI q1), .int (nI q2), .int (nI k), .int (nI v)], [.int (((nI q1) >>> ((nI v) &&& 31)) &&& (nI 1))], MW (upA A 9 q3) B F sw, 0, 0)) 5 rfl ?_
      rw [bx_bit (by omega) (by omega)]
      refine wp_go (f' := ((if ¬ (bI (q1.testBit v)) = 0 then 64 else 51), [.ref 7, .int (nI 0), .ref 9, .int (nI q1), .int (nI q2), .int (nI k), .int (nI v)], [], MW (upA A 9 q3) B F sw, 0, 0)) 1 rfl ?_
      refine wp_ite (fun h2 => ?_) (fun h2 => ?_)
      · have h2 := bI_n0 h2
        refine wp_go (f' := (67, [.ref 7, .int (nI 0), .ref 9, .int (nI q1), .int (nI q2), .int (nI k), .int ((nI v) + 1)], [], MW (upA A 9 q3) B F sw, 0, 0)) 1 rfl ?_
        rw [nI_1]
        refine wp_go (f' := (28, [.ref 7, .int (nI 0), .ref 9, .int (nI q1), .int (nI q2), .int (nI k), .int (nI (v + 1))], [], MW (upA A 9 q3) B F sw, 0, 0)) 1 rfl ?_
        have h9 : v ≠ (pickV n nb 0 q1 q2) := fun e => by rw [← e, next_comb, h2] at w2; cases w2
        exact ih2 (v + 1) (by omega) (by omega)
      · have h2 := Classical.not_not.mp h2; have h2 := bI_0.mp h2
        refine wp_go (f' := (56, [.ref 7, .int (nI 0), .ref 9, .int (nI q1), .int (nI q2), .int (nI k), .int (nI v)], [.int (nI v), .int (nI q1), .int (nI 0), .ref 7], MW (upA A 9 q3) B F sw, 0, 0)) 4 rfl ?_
        have hbit := h2
        have hcf9 := ev_costFrom (xs := xs) (Ls := Ls) (B := B) (sw := sw) hC2 hR2 hE hQ (kind := 0) (by omega) (s := q1) (v := v) (t := bbN n nb 0 (q1 ||| 2 ^ v)) i1 (by omega) ⟨hT _ (or_ltn i1 (by omega)), bbN_le (or_ltn i1 (by omega))⟩
        rw [hq _ _ i1 (by omega) hbit] at hcf9
        have hcb : comb 0 (costN n nb 0 q1 v) (bbN n nb 0 (q1 ||| 2 ^ v)) ≤ 1020 := by have hol := ownC_le (kind := 0) hn hC.2.2.2 hQ i1 (v := v) (by omega) (by omega); rw [hq _ _ i1 (by omega) hbit] at hol; have hbl := bbN_le (nb := nb) (kind := 0) (or_ltn i1 (show v < n by omega)); unfold comb; (repeat' split) <;> omega
        refine wp_call rfl rfl rfl (ev_up hcf9 (by decide)) ?_
        refine wp_eq (f' := (59, [.ref 7, .int (nI 0), .ref 9, .int (nI q1), .int (nI q2), .int (nI k), .int (nI v)], [.int (nI (comb 0 (costN n nb 0 q1 v) (bbN n nb 0 (q1 ||| 2 ^ v))))], MW (upA A 9 q3) B F sw, 0, 0)) rfl ?_
        refine wp_go (f' := ((if (nI (comb 0 (costN n nb 0 q1 v) (bbN n nb 0 (q1 ||| 2 ^ v)))) ≤ (nI q2) then 70 else 64), [.ref 7, .int (nI 0), .ref 9, .int (nI q1), .int (nI q2), .int (nI k), .int (nI v)], [], MW (upA A 9 q3) B F sw, 0, 0)) 2 rfl ?_
        refine wp_ite (fun h3 => ?_) (fun h3 => ?_)
        · have h3 : comb 0 (costN n nb 0 q1 v) (bbN n nb 0 (q1 ||| 2 ^ v)) ≤ q2 := (nI_leI (a := comb 0 (costN n nb 0 q1 v) (bbN n nb 0 (q1 ||| 2 ^ v))) (b := q2) (by omega) (by omega)).mp h3
          have h9 : v = (pickV n nb 0 q1 q2) := by
            rcases Nat.lt_or_ge v (pickV n nb 0 q1 q2) with g | g
            · have h7 := w4 v (Nat.zero_le _) g
              rw [next_comb, h2] at h7
              simp at h7; omega
            · omega
          rw [h9]
          have hpv : (pickV n nb 0 q1 q2) < n := by omega
          have hnx : bbN n nb 0 (q1 ||| 2 ^ (pickV n nb 0 q1 q2)) ≤ (if 0 = 4 then q2 - costN n nb 0 q1 (pickV n nb 0 q1 q2) else q2) ∧ (0 = 4 → costN n nb 0 q1 (pickV n nb 0 q1 q2) ≤ q2) ∧ q1.testBit (pickV n nb 0 q1 q2) = false := by
            have h7 := w2
            unfold nextN at h7
            simp at h7
            simp
            refine ⟨?_, ?_⟩ <;> (first | omega | simp_all)
          obtain ⟨hnx, hcl, hb9⟩ := hnx
          refine wp_go (f' := ((if ¬ (nI 0) = (nI 4) then 88 else 75), [.ref 7, .int (nI 0), .ref 9, .int (nI q1), .int (nI q2), .int (nI k), .int (nI (pickV n nb 0 q1 q2))], [], MW (upA A 9 q3) B F sw, 0, 0)) 3 rfl ?_
          refine wp_ite (fun _ => ?_) (fun h9 => absurd (by decide : ¬ nI 0 = nI 4) h9)
          refine wp_go (f' := (93, [.ref 7, .int (nI 0), .ref 9, .int (nI q1), .int (nI q2), .int (nI k), .int (nI (pickV n nb 0 q1 q2))], [.int (nI (pickV n nb 0 q1 q2)), .int (nI k), .ref 9], MW (upA A 9 q3) B F sw, 0, 0)) 3 rfl ?_
          refine wp_iast rfl rfl (by omega) (by decide) ?_
          refine wp_eq (f' := (94, [.ref 7, .int (nI 0), .ref 9, .int (nI q1), .int (nI q2), .int (nI k), .int (nI (pickV n nb 0 q1 q2))], [], MW (upA A 9 (upd q3 k (nI (pickV n nb 0 q1 q2)))) B F sw, 0, 0)) rfl ?_
          refine wp_go (f' := (99, [.ref 7, .int (nI 0), .ref 9, .int (nI q1), .int (nI q2), .int (nI k), .int (nI (pickV n nb 0 q1 q2))], [.int ((nI 1) <<< ((nI (pickV n nb 0 q1 q2)) &&& 31)), .int (nI q1)], MW (upA A 9 (upd q3 k (nI (pickV n nb 0 q1 q2)))) B F sw, 0, 0)) 4 rfl ?_
          rw [bx_one (by omega)]
          refine wp_go (f' := (100, [.ref 7, .int (nI 0), .ref 9, .int (nI q1), .int (nI q2), .int (nI k), .int (nI (pickV n nb 0 q1 q2))], [.int ((nI q1) ||| (nI (2 ^ (pickV n nb 0 q1 q2))))], MW (upA A 9 (upd q3 k (nI (pickV n nb 0 q1 q2)))) B F sw, 0, 0)) 1 rfl ?_
          rw [bx_or]
          refine wp_go (f' := (104, [.ref 7, .int (nI 0), .ref 9, .int (nI (q1 ||| (2 ^ (pickV n nb 0 q1 q2)))), .int (nI q2), .int ((nI k) + 1), .int (nI (pickV n nb 0 q1 q2))], [], MW (upA A 9 (upd q3 k (nI (pickV n nb 0 q1 q2)))) B F sw, 0, 0)) 2 rfl ?_
          rw [nI_1]
          refine wp_go (f' := (13, [.ref 7, .int (nI 0), .ref 9, .int (nI (q1 ||| (2 ^ (pickV n nb 0 q1 q2)))), .int (nI q2), .int (nI (k + 1)), .int (nI (pickV n nb 0 q1 q2))], [], MW (upA A 9 (upd q3 k (nI (pickV n nb 0 q1 q2)))) B F sw, 0, 0)) 1 rfl ?_
          have h8 := ih ?_ (.int (nI (pickV n nb 0 q1 q2)))
          · exact h8
          · unfold layS
            dsimp only
            refine ⟨or_ltn i1 (by omega), hnx, i3, ?_⟩
            rw [pop_or (by omega) (by omega) hb9]; omega
        · have h3 : ¬ (comb 0 (costN n nb 0 q1 v) (bbN n nb 0 (q1 ||| 2 ^ v)) ≤ q2) := fun h9 => h3 ((nI_leI (a := comb 0 (costN n nb 0 q1 v) (bbN n nb 0 (q1 ||| 2 ^ v))) (b := q2) (by omega) (by omega)).mpr h9)
          refine wp_go (f' := (67, [.ref 7, .int (nI 0), .ref 9, .int (nI q1), .int (nI q2), .int (nI k), .int ((nI v) + 1)], [], MW (upA A 9 q3) B F sw, 0, 0)) 1 rfl ?_
          rw [nI_1]
          refine wp_go (f' := (28, [.ref 7, .int (nI 0), .ref 9, .int (nI q1), .int (nI q2), .int (nI k), .int (nI (v + 1))], [], MW (upA A 9 q3) B F sw, 0, 0)) 1 rfl ?_
          have h9 : v ≠ (pickV n nb 0 q1 q2) := fun e => by rw [← e, next_comb, h2] at w2; simp at w2; omega
          exact ih2 (v + 1) (by omega) (by omega)
  · intro hq9 d6
    refine wp_go (f' := (22, [.ref 7, .int (nI 0), .ref 9, .int (nI (layN n nb 0 (A 9)).1), .int (nI (layN n nb 0 (A 9)).2.1), .int (nI n), d6], [.int (F 0), .int (nI n)], MW (upA A 9 (layN n nb 0 (A 9)).2.2) B F sw, 0, 0)) 4 rfl ?_
    rw [hC.2.1]
    refine wp_go (f' := ((if (nI n) ≤ (nI n) then 107 else 25), [.ref 7, .int (nI 0), .ref 9, .int (nI (layN n nb 0 (A 9)).1), .int (nI (layN n nb 0 (A 9)).2.1), .int (nI n), d6], [], MW (upA A 9 (layN n nb 0 (A 9)).2.2) B F sw, 0, 0)) 1 rfl ?_
    refine wp_ite (fun _ => ?_) (fun h9 => absurd (nI_le (Nat.le_refl _) (by omega)) h9)
    refine wp_go (f' := (112, [.ref 7, .int (nI 0), .ref 9, .int (nI (layN n nb 0 (A 9)).1), .int (nI (layN n nb 0 (A 9)).2.1), .int (nI n), d6], [.int (nI 0), .ref 16], MW (upA A 9 (layN n nb 0 (A 9)).2.2) B F sw, 0, 0)) 3 rfl ?_
    refine wp_iald rfl rfl (by omega) (by decide) ?_
    refine wp_eq (f' := (113, [.ref 7, .int (nI 0), .ref 9, .int (nI (layN n nb 0 (A 9)).1), .int (nI (layN n nb 0 (A 9)).2.1), .int (nI n), d6], [.int ((A 16) 0)], MW (upA A 9 (layN n nb 0 (A 9)).2.2) B F sw, 0, 0)) rfl ?_
    rw [hT 0 (by omega)]
    exact wp_iret rfl
theorem ev_layL1 (hC : CI A F n nb) (hR : RI A n nb) {ed : Nat} (hE : F 1 = nI ed) (hQ : CEd n nb ed) (hq : CQ n nb ed 1) (hT : ∀ j, j < 2 ^ n → A 16 j = nI (bbN n nb 1 j)) : mv_Ev xs Ls 5 46 [.ref 7, .int (nI 1), .ref 10] (MW A B F sw) (some (.int (nI (bbN n nb 1 0))), MW (upA A 10 (layN n nb 1 (A 10)).2.2) B F sw, 0, 0) := by
  refine ev_of_wp rfl rfl rfl ?_
  have hn := hC.1
  have hp := pow10 hn
  have hp1 : 1 ≤ 2 ^ n := Nat.one_le_two_pow
  have hal := all_lt hn
  have hsm := bbN_lt (nb := nb) (kind := 1) (s := 0) hC.1 hC.2.2.2 (by omega)
  refine wp_go (f' := (7, [.ref 7, .int (nI 1), .ref 10, .int (nI 0), .retAddr 0, .retAddr 0, .retAddr 0], [.int (nI 0), .ref 16], MW A B F sw, 0, 0)) 5 rfl ?_
  refine wp_iald rfl rfl (by omega) (by decide) ?_
  rw [hT 0 (by omega)]
  refine wp_go (f' := (13, [.ref 7, .int (nI 1), .ref 10, .int (nI 0), .int (nI (bbN n nb 1 0)), .int (nI 0), .retAddr 0], [], MW A B F sw, 0, 0)) 3 rfl ?_
  refine wp_eq (f' := (13, [.ref 7, .int (nI 1), .ref 10, .int (nI 0), .int (nI (bbN n nb 1 0)), .int (nI 0), .retAddr 0], [], MW (upA A 10 (A 10)) B F sw, 0, 0)) rfl ?_
  refine for_ind (P := fun (k : Nat) (q : Nat × Nat × (Nat → Int32)) => (q.1 < 2 ^ n ∧ bbN n nb 1 q.1 ≤ q.2.1 ∧ q.2.1 ≤ 100 ∧ pop q.1 = k) → ∀ d6 : Value, mv_Wp xs Ls 4 4 false (some .int) mv_c46 (13, [.ref 7, .int (nI 1), .ref 10, .int (nI q.1), .int (nI q.2.1), .int (nI k), d6], [], MW (upA A 10 q.2.2) B F sw, 0, 0) (some (.int (nI (bbN n nb 1 0))), MW (upA A 10 (layN n nb 1 (A 10)).2.2) B F sw, 0, 0)) (f := layS n nb 1) (n := n) ?_ n (0, bbN n nb 1 0, A 10) (Nat.le_refl _) ?_ ⟨by omega, Nat.le_refl _, hsm, (by show pop 0 = 0; decide)⟩ _
  · intro k q hk ih hq9 d6
    obtain ⟨q1, q2, q3⟩ := q
    dsimp only at hq9 ih ⊢
    obtain ⟨i1, i2, i3, i4⟩ := hq9
    have hC2 : CI (upA A 10 q3) F n nb := hC
    have hR2 : RI (upA A 10 q3) n nb := hR
    have hne : q1 ≠ 2 ^ n - 1 := fun e => by rw [e, pop_all hn] at i4; omega
    obtain ⟨v1, v2, v3⟩ := next_ex (nb := nb) (kind := 1) i1 hne i2 (by omega)
    obtain ⟨w1, w2, w3, w4⟩ := firstV_ok (p := nextN n nb 1 q1 q2) n 0 v1 (Nat.zero_le _) (by omega) v3
    change pickV n nb 1 q1 q2 < 0 + n at w1
    change nextN n nb 1 q1 q2 (pickV n nb 1 q1 q2) = true at w2
    change ∀ w, 0 ≤ w → w < pickV n nb 1 q1 q2 → nextN n nb 1 q1 q2 w = false at w4
    refine wp_go (f' := (22, [.ref 7, .int (nI 1), .ref 10, .int (nI q1), .int (nI q2), .int (nI k), d6], [.int (F 0), .int (nI k)], MW (upA A 10 q3) B F sw, 0, 0)) 4 rfl ?_
    rw [hC.2.1]
    refine wp_go (f' := ((if (nI n) ≤ (nI k) then 107 else 25), [.ref 7, .int (nI 1), .ref 10, .int (nI q1), .int (nI q2), .int (nI k), d6], [], MW (upA A 10 q3) B F sw, 0, 0)) 1 rfl ?_
    refine wp_ite (fun h9 => absurd h9 (nI_ge hk (by omega))) (fun _ => ?_)
    refine wp_go (f' := (28, [.ref 7, .int (nI 1), .ref 10, .int (nI q1), .int (nI q2), .int (nI k), .int (nI 0)], [], MW (upA A 10 q3) B F sw, 0, 0)) 2 rfl ?_
    refine wh_ind (P := fun (v : Nat) => v ≤ (pickV n nb 1 q1 q2) → mv_Wp xs Ls 4 4 false (some .int) mv_c46 (28, [.ref 7, .int (nI 1), .ref 10, .int (nI q1), .int (nI q2), .int (nI k), .int (nI v)], [], MW (upA A 10 q3) B F sw, 0, 0) (some (.int (nI (bbN n nb 1 0))), MW (upA A 10 (layN n nb 1 (A 10)).2.2) B F sw, 0, 0)) (fun v => n - v) ?_ 0 (Nat.zero_le _)
    intro v ih2 hv
    refine wp_go (f' := (37, [.ref 7, .int (nI 1), .ref 10, .int (nI q1), .int (nI q2), .int (nI k), .int (nI v)], [.int (F 0), .int (nI v)], MW (upA A 10 q3) B F sw, 0, 0)) 4 rfl ?_
    rw [hC.2.1]
    refine wp_go (f' := (39, [.ref 7, .int (nI 1), .ref 10, .int (nI q1), .int (nI q2), .int (nI k), .int (nI v)], [.int ((nI n) - (nI 1)), .int (nI v)], MW (upA A 10 q3) B F sw, 0, 0)) 2 rfl ?_
    rw [pk_sub (by omega)]
    refine wp_go (f' := ((if (nI (n - 1)) ≤ (nI v) then 70 else 42), [.ref 7, .int (nI 1), .ref 10, .int (nI q1), .int (nI q2), .int (nI k), .int (nI v)], [], MW (upA A 10 q3) B F sw, 0, 0)) 1 rfl ?_
    refine wp_ite (fun h1 => ?_) (fun h1 => ?_)
    · have h1 : n - 1 ≤ v := (nI_leI (a := n - 1) (b := v) (by omega) (by omega)).mp h1
      have h9 : v = (pickV n nb 1 q1 q2) := by
        omega
      rw [h9]
      have hpv : (pickV n nb 1 q1 q2) < n := by omega
      have hnx : bbN n nb 1 (q1 ||| 2 ^ (pickV n nb 1 q1 q2)) ≤ (if 1 = 4 then q2 - costN n nb 1 q1 (pickV n nb 1 q1 q2) else q2) ∧ (1 = 4 → costN n nb 1 q1 (pickV n nb 1 q1 q2) ≤ q2) ∧ q1.testBit (pickV n nb 1 q1 q2) = false := by
        have h7 := w2
        unfold nextN at h7
        simp at h7
        simp
        refine ⟨?_, ?_⟩ <;> (first | omega | simp_all)
      obtain ⟨hnx, hcl, hb9⟩ := hnx
      refine wp_go (f' := ((if ¬ (nI 1) = (nI 4) then 88 else 75), [.ref 7, .int (nI 1), .ref 10, .int (nI q1), .int (nI q2), .int (nI k), .int (nI (pickV n nb 1 q1 q2))], [], MW (upA A 10 q3) B F sw, 0, 0)) 3 rfl ?_
      refine wp_ite (fun _ => ?_) (fun h9 => absurd (by decide : ¬ nI 1 = nI 4) h9)
      refine wp_go (f' := (93, [.ref 7, .int (nI 1), .ref 10, .int (nI q1), .int (nI q2), .int (nI k), .int (nI (pickV n nb 1 q1 q2))], [.int (nI (pickV n nb 1 q1 q2)), .int (nI k), .ref 10], MW (upA A 10 q3) B F sw, 0, 0)) 3 rfl ?_
      refine wp_iast rfl rfl (by omega) (by decide) ?_
      refine wp_eq (f' := (94, [.ref 7, .int (nI 1), .ref 10, .int (nI q1), .int (nI q2), .int (nI k), .int (nI (pickV n nb 1 q1 q2))], [], MW (upA A 10 (upd q3 k (nI (pickV n nb 1 q1 q2)))) B F sw, 0, 0)) rfl ?_
      refine wp_go (f' := (99, [.ref 7, .int (nI 1), .ref 10, .int (nI q1), .int (nI q2), .int (nI k), .int (nI (pickV n nb 1 q1 q2))], [.int ((nI 1) <<< ((nI (pickV n nb 1 q1 q2)) &&& 31)), .int (nI q1)], MW (upA A 10 (upd q3 k (nI (pickV n nb 1 q1 q2)))) B F sw, 0, 0)) 4 rfl ?_
      rw [bx_one (by omega)]
      refine wp_go (f' := (100, [.ref 7, .int (nI 1), .ref 10, .int (nI q1), .int (nI q2), .int (nI k), .int (nI (pickV n nb 1 q1 q2))], [.int ((nI q1) ||| (nI (2 ^ (pickV n nb 1 q1 q2))))], MW (upA A 10 (upd q3 k (nI (pickV n nb 1 q1 q2)))) B F sw, 0, 0)) 1 rfl ?_
      rw [bx_or]
      refine wp_go (f' := (104, [.ref 7, .int (nI 1), .ref 10, .int (nI (q1 ||| (2 ^ (pickV n nb 1 q1 q2)))), .int (nI q2), .int ((nI k) + 1), .int (nI (pickV n nb 1 q1 q2))], [], MW (upA A 10 (upd q3 k (nI (pickV n nb 1 q1 q2)))) B F sw, 0, 0)) 2 rfl ?_
      rw [nI_1]
      refine wp_go (f' := (13, [.ref 7, .int (nI 1), .ref 10, .int (nI (q1 ||| (2 ^ (pickV n nb 1 q1 q2)))), .int (nI q2), .int (nI (k + 1)), .int (nI (pickV n nb 1 q1 q2))], [], MW (upA A 10 (upd q3 k (nI (pickV n nb 1 q1 q2)))) B F sw, 0, 0)) 1 rfl ?_
      have h8 := ih ?_ (.int (nI (pickV n nb 1 q1 q2)))
      · exact h8
      · unfold layS
        dsimp only
        refine ⟨or_ltn i1 (by omega), hnx, i3, ?_⟩
        rw [pop_or (by omega) (by omega) hb9]; omega
    · have h1 : ¬ (n - 1 ≤ v) := fun h9 => h1 ((nI_leI (a := n - 1) (b := v) (by omega) (by omega)).mpr h9)
      refine wp_go (f' := (48, [.ref 7, .int (nI 1), .ref 10, .int (nI q1), .int (nI q2), .int (nI k), .int (nI v)], [.int (((nI q1) >>> ((nI v) &&& 31)) &&& (nI 1))], MW (upA A 10 q3) B F sw, 0, 0)) 5 rfl ?_
      rw [bx_bit (by omega) (by omega)]
      refine wp_go (f' := ((if ¬ (bI (q1.testBit v)) = 0 then 64 else 51), [.ref 7, .int (nI 1), .ref 10, .int (nI q1), .int (nI q2), .int (nI k), .int (nI v)], [], MW (upA A 10 q3) B F sw, 0, 0)) 1 rfl ?_
      refine wp_ite (fun h2 => ?_) (fun h2 => ?_)
      · have h2 := bI_n0 h2
        refine wp_go (f' := (67, [.ref 7, .int (nI 1), .ref 10, .int (nI q1), .int (nI q2), .int (nI k), .int ((nI v) + 1)], [], MW (upA A 10 q3) B F sw, 0, 0)) 1 rfl ?_
        rw [nI_1]
        refine wp_go (f' := (28, [.ref 7, .int (nI 1), .ref 10, .int (nI q1), .int (nI q2), .int (nI k), .int (nI (v + 1))], [], MW (upA A 10 q3) B F sw, 0, 0)) 1 rfl ?_
        have h9 : v ≠ (pickV n nb 1 q1 q2) := fun e => by rw [← e, next_comb, h2] at w2; cases w2
        exact ih2 (v + 1) (by omega) (by omega)
      · have h2 := Classical.not_not.mp h2; have h2 := bI_0.mp h2
        refine wp_go (f' := (56, [.ref 7, .int (nI 1), .ref 10, .int (nI q1), .int (nI q2), .int (nI k), .int (nI v)], [.int (nI v), .int (nI q1), .int (nI 1), .ref 7], MW (upA A 10 q3) B F sw, 0, 0)) 4 rfl ?_
        have hbit := h2
        have hcf9 := ev_costFrom (xs := xs) (Ls := Ls) (B := B) (sw := sw) hC2 hR2 hE hQ (kind := 1) (by omega) (s := q1) (v := v) (t := bbN n nb 1 (q1 ||| 2 ^ v)) i1 (by omega) ⟨hT _ (or_ltn i1 (by omega)), bbN_le (or_ltn i1 (by omega))⟩
        rw [hq _ _ i1 (by omega) hbit] at hcf9
        have hcb : comb 1 (costN n nb 1 q1 v) (bbN n nb 1 (q1 ||| 2 ^ v)) ≤ 1020 := by have hol := ownC_le (kind := 1) hn hC.2.2.2 hQ i1 (v := v) (by omega) (by omega); rw [hq _ _ i1 (by omega) hbit] at hol; have hbl := bbN_le (nb := nb) (kind := 1) (or_ltn i1 (show v < n by omega)); unfold comb; (repeat' split) <;> omega
        refine wp_call rfl rfl rfl (ev_up hcf9 (by decide)) ?_
        refine wp_eq (f' := (59, [.ref 7, .int (nI 1), .ref 10, .int (nI q1), .int (nI q2), .int (nI k), .int (nI v)], [.int (nI (comb 1 (costN n nb 1 q1 v) (bbN n nb 1 (q1 ||| 2 ^ v))))], MW (upA A 10 q3) B F sw, 0, 0)) rfl ?_
        refine wp_go (f' := ((if (nI (comb 1 (costN n nb 1 q1 v) (bbN n nb 1 (q1 ||| 2 ^ v)))) ≤ (nI q2) then 70 else 64), [.ref 7, .int (nI 1), .ref 10, .int (nI q1), .int (nI q2), .int (nI k), .int (nI v)], [], MW (upA A 10 q3) B F sw, 0, 0)) 2 rfl ?_
        refine wp_ite (fun h3 => ?_) (fun h3 => ?_)
        · have h3 : comb 1 (costN n nb 1 q1 v) (bbN n nb 1 (q1 ||| 2 ^ v)) ≤ q2 := (nI_leI (a := comb 1 (costN n nb 1 q1 v) (bbN n nb 1 (q1 ||| 2 ^ v))) (b := q2) (by omega) (by omega)).mp h3
          have h9 : v = (pickV n nb 1 q1 q2) := by
            rcases Nat.lt_or_ge v (pickV n nb 1 q1 q2) with g | g
            · have h7 := w4 v (Nat.zero_le _) g
              rw [next_comb, h2] at h7
              simp at h7; omega
            · omega
          rw [h9]
          have hpv : (pickV n nb 1 q1 q2) < n := by omega
          have hnx : bbN n nb 1 (q1 ||| 2 ^ (pickV n nb 1 q1 q2)) ≤ (if 1 = 4 then q2 - costN n nb 1 q1 (pickV n nb 1 q1 q2) else q2) ∧ (1 = 4 → costN n nb 1 q1 (pickV n nb 1 q1 q2) ≤ q2) ∧ q1.testBit (pickV n nb 1 q1 q2) = false := by
            have h7 := w2
            unfold nextN at h7
            simp at h7
            simp
            refine ⟨?_, ?_⟩ <;> (first | omega | simp_all)
          obtain ⟨hnx, hcl, hb9⟩ := hnx
          refine wp_go (f' := ((if ¬ (nI 1) = (nI 4) then 88 else 75), [.ref 7, .int (nI 1), .ref 10, .int (nI q1), .int (nI q2), .int (nI k), .int (nI (pickV n nb 1 q1 q2))], [], MW (upA A 10 q3) B F sw, 0, 0)) 3 rfl ?_
          refine wp_ite (fun _ => ?_) (fun h9 => absurd (by decide : ¬ nI 1 = nI 4) h9)
          refine wp_go (f' := (93, [.ref 7, .int (nI 1), .ref 10, .int (nI q1), .int (nI q2), .int (nI k), .int (nI (pickV n nb 1 q1 q2))], [.int (nI (pickV n nb 1 q1 q2)), .int (nI k), .ref 10], MW (upA A 10 q3) B F sw, 0, 0)) 3 rfl ?_
          refine wp_iast rfl rfl (by omega) (by decide) ?_
          refine wp_eq (f' := (94, [.ref 7, .int (nI 1), .ref 10, .int (nI q1), .int (nI q2), .int (nI k), .int (nI (pickV n nb 1 q1 q2))], [], MW (upA A 10 (upd q3 k (nI (pickV n nb 1 q1 q2)))) B F sw, 0, 0)) rfl ?_
          refine wp_go (f' := (99, [.ref 7, .int (nI 1), .ref 10, .int (nI q1), .int (nI q2), .int (nI k), .int (nI (pickV n nb 1 q1 q2))], [.int ((nI 1) <<< ((nI (pickV n nb 1 q1 q2)) &&& 31)), .int (nI q1)], MW (upA A 10 (upd q3 k (nI (pickV n nb 1 q1 q2)))) B F sw, 0, 0)) 4 rfl ?_
          rw [bx_one (by omega)]
          refine wp_go (f' := (100, [.ref 7, .int (nI 1), .ref 10, .int (nI q1), .int (nI q2), .int (nI k), .int (nI (pickV n nb 1 q1 q2))], [.int ((nI q1) ||| (nI (2 ^ (pickV n nb 1 q1 q2))))], MW (upA A 10 (upd q3 k (nI (pickV n nb 1 q1 q2)))) B F sw, 0, 0)) 1 rfl ?_
          rw [bx_or]
          refine wp_go (f' := (104, [.ref 7, .int (nI 1), .ref 10, .int (nI (q1 ||| (2 ^ (pickV n nb 1 q1 q2)))), .int (nI q2), .int ((nI k) + 1), .int (nI (pickV n nb 1 q1 q2))], [], MW (upA A 10 (upd q3 k (nI (pickV n nb 1 q1 q2)))) B F sw, 0, 0)) 2 rfl ?_
          rw [nI_1]
          refine wp_go (f' := (13, [.ref 7, .int (nI 1), .ref 10, .int (nI (q1 ||| (2 ^ (pickV n nb 1 q1 q2)))), .int (nI q2), .int (nI (k + 1)), .int (nI (pickV n nb 1 q1 q2))], [], MW (upA A 10 (upd q3 k (nI (pickV n nb 1 q1 q2)))) B F sw, 0, 0)) 1 rfl ?_
          have h8 := ih ?_ (.int (nI (pickV n nb 1 q1 q2)))
          · exact h8
          · unfold layS
            dsimp only
            refine ⟨or_ltn i1 (by omega), hnx, i3, ?_⟩
            rw [pop_or (by omega) (by omega) hb9]; omega
        · have h3 : ¬ (comb 1 (costN n nb 1 q1 v) (bbN n nb 1 (q1 ||| 2 ^ v)) ≤ q2) := fun h9 => h3 ((nI_leI (a := comb 1 (costN n nb 1 q1 v) (bbN n nb 1 (q1 ||| 2 ^ v))) (b := q2) (by omega) (by omega)).mpr h9)
          refine wp_go (f' := (67, [.ref 7, .int (nI 1), .ref 10, .int (nI q1), .int (nI q2), .int (nI k), .int ((nI v) + 1)], [], MW (upA A 10 q3) B F sw, 0, 0)) 1 rfl ?_
          rw [nI_1]
          refine wp_go (f' := (28, [.ref 7, .int (nI 1), .ref 10, .int (nI q1), .int (nI q2), .int (nI k), .int (nI (v + 1))], [], MW (upA A 10 q3) B F sw, 0, 0)) 1 rfl ?_
          have h9 : v ≠ (pickV n nb 1 q1 q2) := fun e => by rw [← e, next_comb, h2] at w2; simp at w2; omega
          exact ih2 (v + 1) (by omega) (by omega)
  · intro hq9 d6
    refine wp_go (f' := (22, [.ref 7, .int (nI 1), .ref 10, .int (nI (layN n nb 1 (A 10)).1), .int (nI (layN n nb 1 (A 10)).2.1), .int (nI n), d6], [.int (F 0), .int (nI n)], MW (upA A 10 (layN n nb 1 (A 10)).2.2) B F sw, 0, 0)) 4 rfl ?_
    rw [hC.2.1]
    refine wp_go (f' := ((if (nI n) ≤ (nI n) then 107 else 25), [.ref 7, .int (nI 1), .ref 10, .int (nI (layN n nb 1 (A 10)).1), .int (nI (layN n nb 1 (A 10)).2.1), .int (nI n), d6], [], MW (upA A 10 (layN n nb 1 (A 10)).2.2) B F sw, 0, 0)) 1 rfl ?_
    refine wp_ite (fun _ => ?_) (fun h9 => absurd (nI_le (Nat.le_refl _) (by omega)) h9)
    refine wp_go (f' := (112, [.ref 7, .int (nI 1), .ref 10, .int (nI (layN n nb 1 (A 10)).1), .int (nI (layN n nb 1 (A 10)).2.1), .int (nI n), d6], [.int (nI 0), .ref 16], MW (upA A 10 (layN n nb 1 (A 10)).2.2) B F sw, 0, 0)) 3 rfl ?_
    refine wp_iald rfl rfl (by omega) (by decide) ?_
    refine wp_eq (f' := (113, [.ref 7, .int (nI 1), .ref 10, .int (nI (layN n nb 1 (A 10)).1), .int (nI (layN n nb 1 (A 10)).2.1), .int (nI n), d6], [.int ((A 16) 0)], MW (upA A 10 (layN n nb 1 (A 10)).2.2) B F sw, 0, 0)) rfl ?_
    rw [hT 0 (by omega)]
    exact wp_iret rfl
theorem ev_layL3 (hC : CI A F n nb) (hR : RI A n nb) {ed : Nat} (hE : F 1 = nI ed) (hQ : CEd n nb ed) (hq : CQ n nb ed 3) (hT : ∀ j, j < 2 ^ n → A 16 j = nI (bbN n nb 3 j)) : mv_Ev xs Ls 5 46 [.ref 7, .int (nI 3), .ref 12] (MW A B F sw) (some (.int (nI (bbN n nb 3 0))), MW (upA A 12 (layN n nb 3 (A 12)).2.2) B F sw, 0, 0) := by
  refine ev_of_wp rfl rfl rfl ?_
  have hn := hC.1
  have hp := pow10 hn
  have hp1 : 1 ≤ 2 ^ n := Nat.one_le_two_pow
  have hal := all_lt hn
  have hsm := bbN_lt (nb := nb) (kind := 3) (s := 0) hC.1 hC.2.2.2 (by omega)
  refine wp_go (f' := (7, [.ref 7, .int (nI 3), .ref 12, .int (nI 0), .retAddr 0, .retAddr 0, .retAddr 0], [.int (nI 0), .ref 16], MW A B F sw, 0, 0)) 5 rfl ?_
  refine wp_iald rfl rfl (by omega) (by decide) ?_
  rw [hT 0 (by omega)]
  refine wp_go (f' := (13, [.ref 7, .int (nI 3), .ref 12, .int (nI 0), .int (nI (bbN n nb 3 0)), .int (nI 0), .retAddr 0], [], MW A B F sw, 0, 0)) 3 rfl ?_
  refine wp_eq (f' := (13, [.ref 7, .int (nI 3), .ref 12, .int (nI 0), .int (nI (bbN n nb 3 0)), .int (nI 0), .retAddr 0], [], MW (upA A 12 (A 12)) B F sw, 0, 0)) rfl ?_
  refine for_ind (P := fun (k : Nat) (q : Nat × Nat × (Nat → Int32)) => (q.1 < 2 ^ n ∧ bbN n nb 3 q.1 ≤ q.2.1 ∧ q.2.1 ≤ 100 ∧ pop q.1 = k) → ∀ d6 : Value, mv_Wp xs Ls 4 4 false (some .int) mv_c46 (13, [.ref 7, .int (nI 3), .ref 12, .int (nI q.1), .int (nI q.2.1), .int (nI k), d6], [], MW (upA A 12 q.2.2) B F sw, 0, 0) (some (.int (nI (bbN n nb 3 0))), MW (upA A 12 (layN n nb 3 (A 12)).2.2) B F sw, 0, 0)) (f := layS n nb 3) (n := n) ?_ n (0, bbN n nb 3 0, A 12) (Nat.le_refl _) ?_ ⟨by omega, Nat.le_refl _, hsm, (by show pop 0 = 0; decide)⟩ _
  · intro k q hk ih hq9 d6
    obtain ⟨q1, q2, q3⟩ := q
    dsimp only at hq9 ih ⊢
    obtain ⟨i1, i2, i3, i4⟩ := hq9
    have hC2 : CI (upA A 12 q3) F n nb := hC
    have hR2 : RI (upA A 12 q3) n nb := hR
    have hne : q1 ≠ 2 ^ n - 1 := fun e => by rw [e, pop_all hn] at i4; omega
    obtain ⟨v1, v2, v3⟩ := next_ex (nb := nb) (kind := 3) i1 hne i2 (by omega)
    obtain ⟨w1, w2, w3, w4⟩ := firstV_ok (p := nextN n nb 3 q1 q2) n 0 v1 (Nat.zero_le _) (by omega) v3
    change pickV n nb 3 q1 q2 < 0 + n at w1
    change nextN n nb 3 q1 q2 (pickV n nb 3 q1 q2) = true at w2
    change ∀ w, 0 ≤ w → w < pickV n nb 3 q1 q2 → nextN n nb 3 q1 q2 w = false at w4
    refine wp_go (f' := (22, [.ref 7, .int (nI 3), .ref 12, .int (nI q1), .int (nI q2), .int (nI k), d6], [.int (F 0), .int (nI k)], MW (upA A 12 q3) B F sw, 0, 0)) 4 rfl ?_
    rw [hC.2.1]
    refine wp_go (f' := ((if (nI n) ≤ (nI k) then 107 else 25), [.ref 7, .int (nI 3), .ref 12, .int (nI q1), .int (nI q2), .int (nI k), d6], [], MW (upA A 12 q3) B F sw, 0, 0)) 1 rfl ?_
    refine wp_ite (fun h9 => absurd h9 (nI_ge hk (by omega))) (fun _ => ?_)
    refine wp_go (f' := (28, [.ref 7, .int (nI 3), .ref 12, .int (nI q1), .int (nI q2), .int (nI k), .int (nI 0)], [], MW (upA A 12 q3) B F sw, 0, 0)) 2 rfl ?_
    refine wh_ind (P := fun (v : Nat) => v ≤ (pickV n nb 3 q1 q2) → mv_Wp xs Ls 4 4 false (some .int) mv_c46 (28, [.ref 7, .int (nI 3), .ref 12, .int (nI q1), .int (nI q2), .int (nI k), .int (nI v)], [], MW (upA A 12 q3) B F sw, 0, 0) (some (.int (nI (bbN n nb 3 0))), MW (upA A 12 (layN n nb 3 (A 12)).2.2) B F sw, 0, 0)) (fun v => n - v) ?_ 0 (Nat.zero_le _)
    intro v ih2 hv
    refine wp_go (f' := (37, [.ref 7, .int (nI 3), .ref 12, .int (nI q1), .int (nI q2), .int (nI k), .int (nI v)], [.int (F 0), .int (nI v)], MW (upA A 12 q3) B F sw, 0, 0)) 4 rfl ?_
    rw [hC.2.1]
    refine wp_go (f' := (39, [.ref 7, .int (nI 3), .ref 12, .int (nI q1), .int (nI q2), .int (nI k), .int (nI v)], [.int ((nI n) - (nI 1)), .int (nI v)], MW (upA A 12 q3) B F sw, 0, 0)) 2 rfl ?_
    rw [pk_sub (by omega)]
    refine wp_go (f' := ((if (nI (n - 1)) ≤ (nI v) then 70 else 42), [.ref 7, .int (nI 3), .ref 12, .int (nI q1), .int (nI q2), .int (nI k), .int (nI v)], [], MW (upA A 12 q3) B F sw, 0, 0)) 1 rfl ?_
    refine wp_ite (fun h1 => ?_) (fun h1 => ?_)
    · have h1 : n - 1 ≤ v := (nI_leI (a := n - 1) (b := v) (by omega) (by omega)).mp h1
      have h9 : v = (pickV n nb 3 q1 q2) := by
        omega
      rw [h9]
      have hpv : (pickV n nb 3 q1 q2) < n := by omega
      have hnx : bbN n nb 3 (q1 ||| 2 ^ (pickV n nb 3 q1 q2)) ≤ (if 3 = 4 then q2 - costN n nb 3 q1 (pickV n nb 3 q1 q2) else q2) ∧ (3 = 4 → costN n nb 3 q1 (pickV n nb 3 q1 q2) ≤ q2) ∧ q1.testBit (pickV n nb 3 q1 q2) = false := by
        have h7 := w2
        unfold nextN at h7
        simp at h7
        simp
        refine ⟨?_, ?_⟩ <;> (first | omega | simp_all)
      obtain ⟨hnx, hcl, hb9⟩ := hnx
      refine wp_go (f' := ((if ¬ (nI 3) = (nI 4) then 88 else 75), [.ref 7, .int (nI 3), .ref 12, .int (nI q1), .int (nI q2), .int (nI k), .int (nI (pickV n nb 3 q1 q2))], [], MW (upA A 12 q3) B F sw, 0, 0)) 3 rfl ?_
      refine wp_ite (fun _ => ?_) (fun h9 => absurd (by decide : ¬ nI 3 = nI 4) h9)
      refine wp_go (f' := (93, [.ref 7, .int (nI 3), .ref 12, .int (nI q1), .int (nI q2), .int (nI k), .int (nI (pickV n nb 3 q1 q2))], [.int (nI (pickV n nb 3 q1 q2)), .int (nI k), .ref 12], MW (upA A 12 q3) B F sw, 0, 0)) 3 rfl ?_
      refine wp_iast rfl rfl (by omega) (by decide) ?_
      refine wp_eq (f' := (94, [.ref 7, .int (nI 3), .ref 12, .int (nI q1), .int (nI q2), .int (nI k), .int (nI (pickV n nb 3 q1 q2))], [], MW (upA A 12 (upd q3 k (nI (pickV n nb 3 q1 q2)))) B F sw, 0, 0)) rfl ?_
      refine wp_go (f' := (99, [.ref 7, .int (nI 3), .ref 12, .int (nI q1), .int (nI q2), .int (nI k), .int (nI (pickV n nb 3 q1 q2))], [.int ((nI 1) <<< ((nI (pickV n nb 3 q1 q2)) &&& 31)), .int (nI q1)], MW (upA A 12 (upd q3 k (nI (pickV n nb 3 q1 q2)))) B F sw, 0, 0)) 4 rfl ?_
      rw [bx_one (by omega)]
      refine wp_go (f' := (100, [.ref 7, .int (nI 3), .ref 12, .int (nI q1), .int (nI q2), .int (nI k), .int (nI (pickV n nb 3 q1 q2))], [.int ((nI q1) ||| (nI (2 ^ (pickV n nb 3 q1 q2))))], MW (upA A 12 (upd q3 k (nI (pickV n nb 3 q1 q2)))) B F sw, 0, 0)) 1 rfl ?_
      rw [bx_or]
      refine wp_go (f' := (104, [.ref 7, .int (nI 3), .ref 12, .int (nI (q1 ||| (2 ^ (pickV n nb 3 q1 q2)))), .int (nI q2), .int ((nI k) + 1), .int (nI (pickV n nb 3 q1 q2))], [], MW (upA A 12 (upd q3 k (nI (pickV n nb 3 q1 q2)))) B F sw, 0, 0)) 2 rfl ?_
      rw [nI_1]
      refine wp_go (f' := (13, [.ref 7, .int (nI 3), .ref 12, .int (nI (q1 ||| (2 ^ (pickV n nb 3 q1 q2)))), .int (nI q2), .int (nI (k + 1)), .int (nI (pickV n nb 3 q1 q2))], [], MW (upA A 12 (upd q3 k (nI (pickV n nb 3 q1 q2)))) B F sw, 0, 0)) 1 rfl ?_
      have h8 := ih ?_ (.int (nI (pickV n nb 3 q1 q2)))
      · exact h8
      · unfold layS
        dsimp only
        refine ⟨or_ltn i1 (by omega), hnx, i3, ?_⟩
        rw [pop_or (by omega) (by omega) hb9]; omega
    · have h1 : ¬ (n - 1 ≤ v) := fun h9 => h1 ((nI_leI (a := n - 1) (b := v) (by omega) (by omega)).mpr h9)
      refine wp_go (f' := (48, [.ref 7, .int (nI 3), .ref 12, .int (nI q1), .int (nI q2), .int (nI k), .int (nI v)], [.int (((nI q1) >>> ((nI v) &&& 31)) &&& (nI 1))], MW (upA A 12 q3) B F sw, 0, 0)) 5 rfl ?_
      rw [bx_bit (by omega) (by omega)]
      refine wp_go (f' := ((if ¬ (bI (q1.testBit v)) = 0 then 64 else 51), [.ref 7, .int (nI 3), .ref 12, .int (nI q1), .int (nI q2), .int (nI k), .int (nI v)], [], MW (upA A 12 q3) B F sw, 0, 0)) 1 rfl ?_
      refine wp_ite (fun h2 => ?_) (fun h2 => ?_)
      · have h2 := bI_n0 h2
        refine wp_go (f' := (67, [.ref 7, .int (nI 3), .ref 12, .int (nI q1), .int (nI q2), .int (nI k), .int ((nI v) + 1)], [], MW (upA A 12 q3) B F sw, 0, 0)) 1 rfl ?_
        rw [nI_1]
        refine wp_go (f' := (28, [.ref 7, .int (nI 3), .ref 12, .int (nI q1), .int (nI q2), .int (nI k), .int (nI (v + 1))], [], MW (upA A 12 q3) B F sw, 0, 0)) 1 rfl ?_
        have h9 : v ≠ (pickV n nb 3 q1 q2) := fun e => by rw [← e, next_comb, h2] at w2; cases w2
        exact ih2 (v + 1) (by omega) (by omega)
      · have h2 := Classical.not_not.mp h2; have h2 := bI_0.mp h2
        refine wp_go (f' := (56, [.ref 7, .int (nI 3), .ref 12, .int (nI q1), .int (nI q2), .int (nI k), .int (nI v)], [.int (nI v), .int (nI q1), .int (nI 3), .ref 7], MW (upA A 12 q3) B F sw, 0, 0)) 4 rfl ?_
        have hbit := h2
        have hcf9 := ev_costFrom (xs := xs) (Ls := Ls) (B := B) (sw := sw) hC2 hR2 hE hQ (kind := 3) (by omega) (s := q1) (v := v) (t := bbN n nb 3 (q1 ||| 2 ^ v)) i1 (by omega) ⟨hT _ (or_ltn i1 (by omega)), bbN_le (or_ltn i1 (by omega))⟩
        rw [hq _ _ i1 (by omega) hbit] at hcf9
        have hcb : comb 3 (costN n nb 3 q1 v) (bbN n nb 3 (q1 ||| 2 ^ v)) ≤ 1020 := by have hol := ownC_le (kind := 3) hn hC.2.2.2 hQ i1 (v := v) (by omega) (by omega); rw [hq _ _ i1 (by omega) hbit] at hol; have hbl := bbN_le (nb := nb) (kind := 3) (or_ltn i1 (show v < n by omega)); unfold comb; (repeat' split) <;> omega
        refine wp_call rfl rfl rfl (ev_up hcf9 (by decide)) ?_
        refine wp_eq (f' := (59, [.ref 7, .int (nI 3), .ref 12, .int (nI q1), .int (nI q2), .int (nI k), .int (nI v)], [.int (nI (comb 3 (costN n nb 3 q1 v) (bbN n nb 3 (q1 ||| 2 ^ v))))], MW (upA A 12 q3) B F sw, 0, 0)) rfl ?_
        refine wp_go (f' := ((if (nI (comb 3 (costN n nb 3 q1 v) (bbN n nb 3 (q1 ||| 2 ^ v)))) ≤ (nI q2) then 70 else 64), [.ref 7, .int (nI 3), .ref 12, .int (nI q1), .int (nI q2), .int (nI k), .int (nI v)], [], MW (upA A 12 q3) B F sw, 0, 0)) 2 rfl ?_
        refine wp_ite (fun h3 => ?_) (fun h3 => ?_)
        · have h3 : comb 3 (costN n nb 3 q1 v) (bbN n nb 3 (q1 ||| 2 ^ v)) ≤ q2 := (nI_leI (a := comb 3 (costN n nb 3 q1 v) (bbN n nb 3 (q1 ||| 2 ^ v))) (b := q2) (by omega) (by omega)).mp h3
          have h9 : v = (pickV n nb 3 q1 q2) := by
            rcases Nat.lt_or_ge v (pickV n nb 3 q1 q2) with g | g
            · have h7 := w4 v (Nat.zero_le _) g
              rw [next_comb, h2] at h7
              simp at h7; omega
            · omega
          rw [h9]
          have hpv : (pickV n nb 3 q1 q2) < n := by omega
          have hnx : bbN n nb 3 (q1 ||| 2 ^ (pickV n nb 3 q1 q2)) ≤ (if 3 = 4 then q2 - costN n nb 3 q1 (pickV n nb 3 q1 q2) else q2) ∧ (3 = 4 → costN n nb 3 q1 (pickV n nb 3 q1 q2) ≤ q2) ∧ q1.testBit (pickV n nb 3 q1 q2) = false := by
            have h7 := w2
            unfold nextN at h7
            simp at h7
            simp
            refine ⟨?_, ?_⟩ <;> (first | omega | simp_all)
          obtain ⟨hnx, hcl, hb9⟩ := hnx
          refine wp_go (f' := ((if ¬ (nI 3) = (nI 4) then 88 else 75), [.ref 7, .int (nI 3), .ref 12, .int (nI q1), .int (nI q2), .int (nI k), .int (nI (pickV n nb 3 q1 q2))], [], MW (upA A 12 q3) B F sw, 0, 0)) 3 rfl ?_
          refine wp_ite (fun _ => ?_) (fun h9 => absurd (by decide : ¬ nI 3 = nI 4) h9)
          refine wp_go (f' := (93, [.ref 7, .int (nI 3), .ref 12, .int (nI q1), .int (nI q2), .int (nI k), .int (nI (pickV n nb 3 q1 q2))], [.int (nI (pickV n nb 3 q1 q2)), .int (nI k), .ref 12], MW (upA A 12 q3) B F sw, 0, 0)) 3 rfl ?_
          refine wp_iast rfl rfl (by omega) (by decide) ?_
          refine wp_eq (f' := (94, [.ref 7, .int (nI 3), .ref 12, .int (nI q1), .int (nI q2), .int (nI k), .int (nI (pickV n nb 3 q1 q2))], [], MW (upA A 12 (upd q3 k (nI (pickV n nb 3 q1 q2)))) B F sw, 0, 0)) rfl ?_
          refine wp_go (f' := (99, [.ref 7, .int (nI 3), .ref 12, .int (nI q1), .int (nI q2), .int (nI k), .int (nI (pickV n nb 3 q1 q2))], [.int ((nI 1) <<< ((nI (pickV n nb 3 q1 q2)) &&& 31)), .int (nI q1)], MW (upA A 12 (upd q3 k (nI (pickV n nb 3 q1 q2)))) B F sw, 0, 0)) 4 rfl ?_
          rw [bx_one (by omega)]
          refine wp_go (f' := (100, [.ref 7, .int (nI 3), .ref 12, .int (nI q1), .int (nI q2), .int (nI k), .int (nI (pickV n nb 3 q1 q2))], [.int ((nI q1) ||| (nI (2 ^ (pickV n nb 3 q1 q2))))], MW (upA A 12 (upd q3 k (nI (pickV n nb 3 q1 q2)))) B F sw, 0, 0)) 1 rfl ?_
          rw [bx_or]
          refine wp_go (f' := (104, [.ref 7, .int (nI 3), .ref 12, .int (nI (q1 ||| (2 ^ (pickV n nb 3 q1 q2)))), .int (nI q2), .int ((nI k) + 1), .int (nI (pickV n nb 3 q1 q2))], [], MW (upA A 12 (upd q3 k (nI (pickV n nb 3 q1 q2)))) B F sw, 0, 0)) 2 rfl ?_
          rw [nI_1]
          refine wp_go (f' := (13, [.ref 7, .int (nI 3), .ref 12, .int (nI (q1 ||| (2 ^ (pickV n nb 3 q1 q2)))), .int (nI q2), .int (nI (k + 1)), .int (nI (pickV n nb 3 q1 q2))], [], MW (upA A 12 (upd q3 k (nI (pickV n nb 3 q1 q2)))) B F sw, 0, 0)) 1 rfl ?_
          have h8 := ih ?_ (.int (nI (pickV n nb 3 q1 q2)))
          · exact h8
          · unfold layS
            dsimp only
            refine ⟨or_ltn i1 (by omega), hnx, i3, ?_⟩
            rw [pop_or (by omega) (by omega) hb9]; omega
        · have h3 : ¬ (comb 3 (costN n nb 3 q1 v) (bbN n nb 3 (q1 ||| 2 ^ v)) ≤ q2) := fun h9 => h3 ((nI_leI (a := comb 3 (costN n nb 3 q1 v) (bbN n nb 3 (q1 ||| 2 ^ v))) (b := q2) (by omega) (by omega)).mpr h9)
          refine wp_go (f' := (67, [.ref 7, .int (nI 3), .ref 12, .int (nI q1), .int (nI q2), .int (nI k), .int ((nI v) + 1)], [], MW (upA A 12 q3) B F sw, 0, 0)) 1 rfl ?_
          rw [nI_1]
          refine wp_go (f' := (28, [.ref 7, .int (nI 3), .ref 12, .int (nI q1), .int (nI q2), .int (nI k), .int (nI (v + 1))], [], MW (upA A 12 q3) B F sw, 0, 0)) 1 rfl ?_
          have h9 : v ≠ (pickV n nb 3 q1 q2) := fun e => by rw [← e, next_comb, h2] at w2; simp at w2; omega
          exact ih2 (v + 1) (by omega) (by omega)
  · intro hq9 d6
    refine wp_go (f' := (22, [.ref 7, .int (nI 3), .ref 12, .int (nI (layN n nb 3 (A 12)).1), .int (nI (layN n nb 3 (A 12)).2.1), .int (nI n), d6], [.int (F 0), .int (nI n)], MW (upA A 12 (layN n nb 3 (A 12)).2.2) B F sw, 0, 0)) 4 rfl ?_
    rw [hC.2.1]
    refine wp_go (f' := ((if (nI n) ≤ (nI n) then 107 else 25), [.ref 7, .int (nI 3), .ref 12, .int (nI (layN n nb 3 (A 12)).1), .int (nI (layN n nb 3 (A 12)).2.1), .int (nI n), d6], [], MW (upA A 12 (layN n nb 3 (A 12)).2.2) B F sw, 0, 0)) 1 rfl ?_
    refine wp_ite (fun _ => ?_) (fun h9 => absurd (nI_le (Nat.le_refl _) (by omega)) h9)
    refine wp_go (f' := (112, [.ref 7, .int (nI 3), .ref 12, .int (nI (layN n nb 3 (A 12)).1), .int (nI (layN n nb 3 (A 12)).2.1), .int (nI n), d6], [.int (nI 0), .ref 16], MW (upA A 12 (layN n nb 3 (A 12)).2.2) B F sw, 0, 0)) 3 rfl ?_
    refine wp_iald rfl rfl (by omega) (by decide) ?_
    refine wp_eq (f' := (113, [.ref 7, .int (nI 3), .ref 12, .int (nI (layN n nb 3 (A 12)).1), .int (nI (layN n nb 3 (A 12)).2.1), .int (nI n), d6], [.int ((A 16) 0)], MW (upA A 12 (layN n nb 3 (A 12)).2.2) B F sw, 0, 0)) rfl ?_
    rw [hT 0 (by omega)]
    exact wp_iret rfl
theorem ev_layL4 (hC : CI A F n nb) (hR : RI A n nb) {ed : Nat} (hE : F 1 = nI ed) (hQ : CEd n nb ed) (hq : CQ n nb ed 4) (hT : ∀ j, j < 2 ^ n → A 16 j = nI (bbN n nb 4 j)) : mv_Ev xs Ls 5 46 [.ref 7, .int (nI 4), .ref 13] (MW A B F sw) (some (.int (nI (bbN n nb 4 0))), MW (upA A 13 (layN n nb 4 (A 13)).2.2) B F sw, 0, 0) := by
  refine ev_of_wp rfl rfl rfl ?_
  have hn := hC.1
  have hp := pow10 hn
  have hp1 : 1 ≤ 2 ^ n := Nat.one_le_two_pow
  have hal := all_lt hn
  have hsm := bbN_lt (nb := nb) (kind := 4) (s := 0) hC.1 hC.2.2.2 (by omega)
  refine wp_go (f' := (7, [.ref 7, .int (nI 4), .ref 13, .int (nI 0), .retAddr 0, .retAddr 0, .retAddr 0], [.int (nI 0), .ref 16], MW A B F sw, 0, 0)) 5 rfl ?_
  refine wp_iald rfl rfl (by omega) (by decide) ?_
  rw [hT 0 (by omega)]
  refine wp_go (f' := (13, [.ref 7, .int (nI 4), .ref 13, .int (nI 0), .int (nI (bbN n nb 4 0)), .int (nI 0), .retAddr 0], [], MW A B F sw, 0, 0)) 3 rfl ?_
  refine wp_eq (f' := (13, [.ref 7, .int (nI 4), .ref 13, .int (nI 0), .int (nI (bbN n nb 4 0)), .int (nI 0), .retAddr 0], [], MW (upA A 13 (A 13)) B F sw, 0, 0)) rfl ?_
  refine for_ind (P := fun (k : Nat) (q : Nat × Nat × (Nat → Int32)) => (q.1 < 2 ^ n ∧ bbN n nb 4 q.1 ≤ q.2.1 ∧ q.2.1 ≤ 100 ∧ pop q.1 = k) → ∀ d6 : Value, mv_Wp xs Ls 4 4 false (some .int) mv_c46 (13, [.ref 7, .int (nI 4), .ref 13, .int (nI q.1), .int (nI q.2.1), .int (nI k), d6], [], MW (upA A 13 q.2.2) B F sw, 0, 0) (some (.int (nI (bbN n nb 4 0))), MW (upA A 13 (layN n nb 4 (A 13)).2.2) B F sw, 0, 0)) (f := layS n nb 4) (n := n) ?_ n (0, bbN n nb 4 0, A 13) (Nat.le_refl _) ?_ ⟨by omega, Nat.le_refl _, hsm, (by show pop 0 = 0; decide)⟩ _
  · intro k q hk ih hq9 d6
    obtain ⟨q1, q2, q3⟩ := q
    dsimp only at hq9 ih ⊢
    obtain ⟨i1, i2, i3, i4⟩ := hq9
    have hC2 : CI (upA A 13 q3) F n nb := hC
    have hR2 : RI (upA A 13 q3) n nb := hR
    have hne : q1 ≠ 2 ^ n - 1 := fun e => by rw [e, pop_all hn] at i4; omega
    obtain ⟨v1, v2, v3⟩ := next_ex (nb := nb) (kind := 4) i1 hne i2 (by omega)
    obtain ⟨w1, w2, w3, w4⟩ := firstV_ok (p := nextN n nb 4 q1 q2) n 0 v1 (Nat.zero_le _) (by omega) v3
    change pickV n nb 4 q1 q2 < 0 + n at w1
    change nextN n nb 4 q1 q2 (pickV n nb 4 q1 q2) = true at w2
    change ∀ w, 0 ≤ w → w < pickV n nb 4 q1 q2 → nextN n nb 4 q1 q2 w = false at w4
    refine wp_go (f' := (22, [.ref 7, .int (nI 4), .ref 13, .int (nI q1), .int (nI q2), .int (nI k), d6], [.int (F 0), .int (nI k)], MW (upA A 13 q3) B F sw, 0, 0)) 4 rfl ?_
    rw [hC.2.1]
    refine wp_go (f' := ((if (nI n) ≤ (nI k) then 107 else 25), [.ref 7, .int (nI 4), .ref 13, .int (nI q1), .int (nI q2), .int (nI k), d6], [], MW (upA A 13 q3) B F sw, 0, 0)) 1 rfl ?_
    refine wp_ite (fun h9 => absurd h9 (nI_ge hk (by omega))) (fun _ => ?_)
    refine wp_go (f' := (28, [.ref 7, .int (nI 4), .ref 13, .int (nI q1), .int (nI q2), .int (nI k), .int (nI 0)], [], MW (upA A 13 q3) B F sw, 0, 0)) 2 rfl ?_
    refine wh_ind (P := fun (v : Nat) => v ≤ (pickV n nb 4 q1 q2) → mv_Wp xs Ls 4 4 false (some .int) mv_c46 (28, [.ref 7, .int (nI 4), .ref 13, .int (nI q1), .int (nI q2), .int (nI k), .int (nI v)], [], MW (upA A 13 q3) B F sw, 0, 0) (some (.int (nI (bbN n nb 4 0))), MW (upA A 13 (layN n nb 4 (A 13)).2.2) B F sw, 0, 0)) (fun v => n - v) ?_ 0 (Nat.zero_le _)
    intro v ih2 hv
    have hcl4 : True := trivial
    refine wp_go (f' := (37, [.ref 7, .int (nI 4), .ref 13, .int (nI q1), .int (nI q2), .int (nI k), .int (nI v)], [.int (F 0), .int (nI v)], MW (upA A 13 q3) B F sw, 0, 0)) 4 rfl ?_
    rw [hC.2.1]
    refine wp_go (f' := (39, [.ref 7, .int (nI 4), .ref 13, .int (nI q1), .int (nI q2), .int (nI k), .int (nI v)], [.int ((nI n) - (nI 1)), .int (nI v)], MW (upA A 13 q3) B F sw, 0, 0)) 2 rfl ?_
    rw [pk_sub (by omega)]
    refine wp_go (f' := ((if (nI (n - 1)) ≤ (nI v) then 70 else 42), [.ref 7, .int (nI 4), .ref 13, .int (nI q1), .int (nI q2), .int (nI k), .int (nI v)], [], MW (upA A 13 q3) B F sw, 0, 0)) 1 rfl ?_
    refine wp_ite (fun h1 => ?_) (fun h1 => ?_)
    · have h1 : n - 1 ≤ v := (nI_leI (a := n - 1) (b := v) (by omega) (by omega)).mp h1
      have h9 : v = (pickV n nb 4 q1 q2) := by
        omega
      rw [h9]
      have hpv : (pickV n nb 4 q1 q2) < n := by omega
      have hnx : bbN n nb 4 (q1 ||| 2 ^ (pickV n nb 4 q1 q2)) ≤ (if 4 = 4 then q2 - costN n nb 4 q1 (pickV n nb 4 q1 q2) else q2) ∧ (4 = 4 → costN n nb 4 q1 (pickV n nb 4 q1 q2) ≤ q2) ∧ q1.testBit (pickV n nb 4 q1 q2) = false := by
        have h7 := w2
        unfold nextN at h7
        simp at h7
        simp
        refine ⟨by omega, by omega, h7.1⟩
      obtain ⟨hnx, hcl, hb9⟩ := hnx
      refine wp_go (f' := ((if ¬ (nI 4) = (nI 4) then 88 else 75), [.ref 7, .int (nI 4), .ref 13, .int (nI q1), .int (nI q2), .int (nI k), .int (nI (pickV n nb 4 q1 q2))], [], MW (upA A 13 q3) B F sw, 0, 0)) 3 rfl ?_
      refine wp_ite (fun h9 => absurd h9 (fun h8 => h8 rfl : ¬ ¬ nI 4 = nI 4)) (fun _ => ?_)
      refine wp_go (f' := (82, [.ref 7, .int (nI 4), .ref 13, .int (nI q1), .int (nI q2), .int (nI k), .int (nI (pickV n nb 4 q1 q2))], [.int (nI (pickV n nb 4 q1 q2)), .int (nI q1), .int (nI 4), .ref 7, .int (nI q2)], MW (upA A 13 q3) B F sw, 0, 0)) 5 rfl ?_
      have hown9 := ev_own (xs := xs) (Ls := Ls) (B := B) (sw := sw) hC2 hR2 hE hQ (kind := 4) (by omega) (s := q1) (v := (pickV n nb 4 q1 q2)) i1 hpv
      rw [hq _ _ i1 hpv hb9] at hown9
      refine wp_call rfl rfl rfl (ev_up hown9 (by decide)) ?_
      refine wp_eq (f' := (85, [.ref 7, .int (nI 4), .ref 13, .int (nI q1), .int (nI q2), .int (nI k), .int (nI (pickV n nb 4 q1 q2))], [.int (nI (costN n nb 4 q1 (pickV n nb 4 q1 q2))), .int (nI q2)], MW (upA A 13 q3) B F sw, 0, 0)) rfl ?_
      refine wp_go (f' := (86, [.ref 7, .int (nI 4), .ref 13, .int (nI q1), .int (nI q2), .int (nI k), .int (nI (pickV n nb 4 q1 q2))], [.int ((nI q2) - (nI (costN n nb 4 q1 (pickV n nb 4 q1 q2))))], MW (upA A 13 q3) B F sw, 0, 0)) 1 rfl ?_
      rw [pk_sub (by omega)]
      refine wp_go (f' := (93, [.ref 7, .int (nI 4), .ref 13, .int (nI q1), .int (nI (q2 - (costN n nb 4 q1 (pickV n nb 4 q1 q2)))), .int (nI k), .int (nI (pickV n nb 4 q1 q2))], [.int (nI (pickV n nb 4 q1 q2)), .int (nI k), .ref 13], MW (upA A 13 q3) B F sw, 0, 0)) 4 rfl ?_
      refine wp_iast rfl rfl (by omega) (by decide) ?_
      refine wp_eq (f' := (94, [.ref 7, .int (nI 4), .ref 13, .int (nI q1), .int (nI (q2 - (costN n nb 4 q1 (pickV n nb 4 q1 q2)))), .int (nI k), .int (nI (pickV n nb 4 q1 q2))], [], MW (upA A 13 (upd q3 k (nI (pickV n nb 4 q1 q2)))) B F sw, 0, 0)) rfl ?_
      refine wp_go (f' := (99, [.ref 7, .int (nI 4), .ref 13, .int (nI q1), .int (nI (q2 - (costN n nb 4 q1 (pickV n nb 4 q1 q2)))), .int (nI k), .int (nI (pickV n nb 4 q1 q2))], [.int ((nI 1) <<< ((nI (pickV n nb 4 q1 q2)) &&& 31)), .int (nI q1)], MW (upA A 13 (upd q3 k (nI (pickV n nb 4 q1 q2)))) B F sw, 0, 0)) 4 rfl ?_
      rw [bx_one (by omega)]
      refine wp_go (f' := (100, [.ref 7, .int (nI 4), .ref 13, .int (nI q1), .int (nI (q2 - (costN n nb 4 q1 (pickV n nb 4 q1 q2)))), .int (nI k), .int (nI (pickV n nb 4 q1 q2))], [.int ((nI q1) ||| (nI (2 ^ (pickV n nb 4 q1 q2))))], MW (upA A 13 (upd q3 k (nI (pickV n nb 4 q1 q2)))) B F sw, 0, 0)) 1 rfl ?_
      rw [bx_or]
      refine wp_go (f' := (104, [.ref 7, .int (nI 4), .ref 13, .int (nI (q1 ||| (2 ^ (pickV n nb 4 q1 q2)))), .int (nI (q2 - (costN n nb 4 q1 (pickV n nb 4 q1 q2)))), .int ((nI k) + 1), .int (nI (pickV n nb 4 q1 q2))], [], MW (upA A 13 (upd q3 k (nI (pickV n nb 4 q1 q2)))) B F sw, 0, 0)) 2 rfl ?_
      rw [nI_1]
      refine wp_go (f' := (13, [.ref 7, .int (nI 4), .ref 13, .int (nI (q1 ||| (2 ^ (pickV n nb 4 q1 q2)))), .int (nI (q2 - (costN n nb 4 q1 (pickV n nb 4 q1 q2)))), .int (nI (k + 1)), .int (nI (pickV n nb 4 q1 q2))], [], MW (upA A 13 (upd q3 k (nI (pickV n nb 4 q1 q2)))) B F sw, 0, 0)) 1 rfl ?_
      have h8 := ih ?_ (.int (nI (pickV n nb 4 q1 q2)))
      · exact h8
      · unfold layS
        dsimp only
        refine ⟨or_ltn i1 (by omega), hnx, by have h5 := hcl rfl; show _ - _ ≤ 100; omega, ?_⟩
        rw [pop_or (by omega) (by omega) hb9]; omega
    · have h1 : ¬ (n - 1 ≤ v) := fun h9 => h1 ((nI_leI (a := n - 1) (b := v) (by omega) (by omega)).mpr h9)
      refine wp_go (f' := (48, [.ref 7, .int (nI 4), .ref 13, .int (nI q1), .int (nI q2), .int (nI k), .int (nI v)], [.int (((nI q1) >>> ((nI v) &&& 31)) &&& (nI 1))], MW (upA A 13 q3) B F sw, 0, 0)) 5 rfl ?_
      rw [bx_bit (by omega) (by omega)]
      refine wp_go (f' := ((if ¬ (bI (q1.testBit v)) = 0 then 64 else 51), [.ref 7, .int (nI 4), .ref 13, .int (nI q1), .int (nI q2), .int (nI k), .int (nI v)], [], MW (upA A 13 q3) B F sw, 0, 0)) 1 rfl ?_
      refine wp_ite (fun h2 => ?_) (fun h2 => ?_)
      · have h2 := bI_n0 h2
        refine wp_go (f' := (67, [.ref 7, .int (nI 4), .ref 13, .int (nI q1), .int (nI q2), .int (nI k), .int ((nI v) + 1)], [], MW (upA A 13 q3) B F sw, 0, 0)) 1 rfl ?_
        rw [nI_1]
        refine wp_go (f' := (28, [.ref 7, .int (nI 4), .ref 13, .int (nI q1), .int (nI q2), .int (nI k), .int (nI (v + 1))], [], MW (upA A 13 q3) B F sw, 0, 0)) 1 rfl ?_
        have h9 : v ≠ (pickV n nb 4 q1 q2) := fun e => by rw [← e, next_comb, h2] at w2; cases w2
        exact ih2 (v + 1) (by omega) (by omega)
      · have h2 := Classical.not_not.mp h2; have h2 := bI_0.mp h2
        refine wp_go (f' := (56, [.ref 7, .int (nI 4), .ref 13, .int (nI q1), .int (nI q2), .int (nI k), .int (nI v)], [.int (nI v), .int (nI q1), .int (nI 4), .ref 7], MW (upA A 13 q3) B F sw, 0, 0)) 4 rfl ?_
        have hbit := h2
        have hcf9 := ev_costFrom (xs := xs) (Ls := Ls) (B := B) (sw := sw) hC2 hR2 hE hQ (kind := 4) (by omega) (s := q1) (v := v) (t := bbN n nb 4 (q1 ||| 2 ^ v)) i1 (by omega) ⟨hT _ (or_ltn i1 (by omega)), bbN_le (or_ltn i1 (by omega))⟩
        rw [hq _ _ i1 (by omega) hbit] at hcf9
        have hcb : comb 4 (costN n nb 4 q1 v) (bbN n nb 4 (q1 ||| 2 ^ v)) ≤ 1020 := by have hol := ownC_le (kind := 4) hn hC.2.2.2 hQ i1 (v := v) (by omega) (by omega); rw [hq _ _ i1 (by omega) hbit] at hol; have hbl := bbN_le (nb := nb) (kind := 4) (or_ltn i1 (show v < n by omega)); unfold comb; (repeat' split) <;> omega
        refine wp_call rfl rfl rfl (ev_up hcf9 (by decide)) ?_
        refine wp_eq (f' := (59, [.ref 7, .int (nI 4), .ref 13, .int (nI q1), .int (nI q2), .int (nI k), .int (nI v)], [.int (nI (comb 4 (costN n nb 4 q1 v) (bbN n nb 4 (q1 ||| 2 ^ v))))], MW (upA A 13 q3) B F sw, 0, 0)) rfl ?_
        refine wp_go (f' := ((if (nI (comb 4 (costN n nb 4 q1 v) (bbN n nb 4 (q1 ||| 2 ^ v)))) ≤ (nI q2) then 70 else 64), [.ref 7, .int (nI 4), .ref 13, .int (nI q1), .int (nI q2), .int (nI k), .int (nI v)], [], MW (upA A 13 q3) B F sw, 0, 0)) 2 rfl ?_
        refine wp_ite (fun h3 => ?_) (fun h3 => ?_)
        · have h3 : comb 4 (costN n nb 4 q1 v) (bbN n nb 4 (q1 ||| 2 ^ v)) ≤ q2 := (nI_leI (a := comb 4 (costN n nb 4 q1 v) (bbN n nb 4 (q1 ||| 2 ^ v))) (b := q2) (by omega) (by omega)).mp h3
          have h9 : v = (pickV n nb 4 q1 q2) := by
            rcases Nat.lt_or_ge v (pickV n nb 4 q1 q2) with g | g
            · have h7 := w4 v (Nat.zero_le _) g
              rw [next_comb, h2] at h7
              simp at h7; omega
            · omega
          rw [h9]
          have hpv : (pickV n nb 4 q1 q2) < n := by omega
          have hnx : bbN n nb 4 (q1 ||| 2 ^ (pickV n nb 4 q1 q2)) ≤ (if 4 = 4 then q2 - costN n nb 4 q1 (pickV n nb 4 q1 q2) else q2) ∧ (4 = 4 → costN n nb 4 q1 (pickV n nb 4 q1 q2) ≤ q2) ∧ q1.testBit (pickV n nb 4 q1 q2) = false := by
            have h7 := w2
            unfold nextN at h7
            simp at h7
            simp
            refine ⟨by omega, by omega, h7.1⟩
          obtain ⟨hnx, hcl, hb9⟩ := hnx
          refine wp_go (f' := ((if ¬ (nI 4) = (nI 4) then 88 else 75), [.ref 7, .int (nI 4), .ref 13, .int (nI q1), .int (nI q2), .int (nI k), .int (nI (pickV n nb 4 q1 q2))], [], MW (upA A 13 q3) B F sw, 0, 0)) 3 rfl ?_
          refine wp_ite (fun h9 => absurd h9 (fun h8 => h8 rfl : ¬ ¬ nI 4 = nI 4)) (fun _ => ?_)
          refine wp_go (f' := (82, [.ref 7, .int (nI 4), .ref 13, .int (nI q1), .int (nI q2), .int (nI k), .int (nI (pickV n nb 4 q1 q2))], [.int (nI (pickV n nb 4 q1 q2)), .int (nI q1), .int (nI 4), .ref 7, .int (nI q2)], MW (upA A 13 q3) B F sw, 0, 0)) 5 rfl ?_
          have hown9 := ev_own (xs := xs) (Ls := Ls) (B := B) (sw := sw) hC2 hR2 hE hQ (kind := 4) (by omega) (s := q1) (v := (pickV n nb 4 q1 q2)) i1 hpv
          rw [hq _ _ i1 hpv hb9] at hown9
          refine wp_call rfl rfl rfl (ev_up hown9 (by decide)) ?_
          refine wp_eq (f' := (85, [.ref 7, .int (nI 4), .ref 13, .int (nI q1), .int (nI q2), .int (nI k), .int (nI (pickV n nb 4 q1 q2))], [.int (nI (costN n nb 4 q1 (pickV n nb 4 q1 q2))), .int (nI q2)], MW (upA A 13 q3) B F sw, 0, 0)) rfl ?_
          refine wp_go (f' := (86, [.ref 7, .int (nI 4), .ref 13, .int (nI q1), .int (nI q2), .int (nI k), .int (nI (pickV n nb 4 q1 q2))], [.int ((nI q2) - (nI (costN n nb 4 q1 (pickV n nb 4 q1 q2))))], MW (upA A 13 q3) B F sw, 0, 0)) 1 rfl ?_
          rw [pk_sub (by omega)]
          refine wp_go (f' := (93, [.ref 7, .int (nI 4), .ref 13, .int (nI q1), .int (nI (q2 - (costN n nb 4 q1 (pickV n nb 4 q1 q2)))), .int (nI k), .int (nI (pickV n nb 4 q1 q2))], [.int (nI (pickV n nb 4 q1 q2)), .int (nI k), .ref 13], MW (upA A 13 q3) B F sw, 0, 0)) 4 rfl ?_
          refine wp_iast rfl rfl (by omega) (by decide) ?_
          refine wp_eq (f' := (94, [.ref 7, .int (nI 4), .ref 13, .int (nI q1), .int (nI (q2 - (costN n nb 4 q1 (pickV n nb 4 q1 q2)))), .int (nI k), .int (nI (pickV n nb 4 q1 q2))], [], MW (upA A 13 (upd q3 k (nI (pickV n nb 4 q1 q2)))) B F sw, 0, 0)) rfl ?_
          refine wp_go (f' := (99, [.ref 7, .int (nI 4), .ref 13, .int (nI q1), .int (nI (q2 - (costN n nb 4 q1 (pickV n nb 4 q1 q2)))), .int (nI k), .int (nI (pickV n nb 4 q1 q2))], [.int ((nI 1) <<< ((nI (pickV n nb 4 q1 q2)) &&& 31)), .int (nI q1)], MW (upA A 13 (upd q3 k (nI (pickV n nb 4 q1 q2)))) B F sw, 0, 0)) 4 rfl ?_
          rw [bx_one (by omega)]
          refine wp_go (f' := (100, [.ref 7, .int (nI 4), .ref 13, .int (nI q1), .int (nI (q2 - (costN n nb 4 q1 (pickV n nb 4 q1 q2)))), .int (nI k), .int (nI (pickV n nb 4 q1 q2))], [.int ((nI q1) ||| (nI (2 ^ (pickV n nb 4 q1 q2))))], MW (upA A 13 (upd q3 k (nI (pickV n nb 4 q1 q2)))) B F sw, 0, 0)) 1 rfl ?_
          rw [bx_or]
          refine wp_go (f' := (104, [.ref 7, .int (nI 4), .ref 13, .int (nI (q1 ||| (2 ^ (pickV n nb 4 q1 q2)))), .int (nI (q2 - (costN n nb 4 q1 (pickV n nb 4 q1 q2)))), .int ((nI k) + 1), .int (nI (pickV n nb 4 q1 q2))], [], MW (upA A 13 (upd q3 k (nI (pickV n nb 4 q1 q2)))) B F sw, 0, 0)) 2 rfl ?_
          rw [nI_1]
          refine wp_go (f' := (13, [.ref 7, .int (nI 4), .ref 13, .int (nI (q1 ||| (2 ^ (pickV n nb 4 q1 q2)))), .int (nI (q2 - (costN n nb 4 q1 (pickV n nb 4 q1 q2)))), .int (nI (k + 1)), .int (nI (pickV n nb 4 q1 q2))], [], MW (upA A 13 (upd q3 k (nI (pickV n nb 4 q1 q2)))) B F sw, 0, 0)) 1 rfl ?_
          have h8 := ih ?_ (.int (nI (pickV n nb 4 q1 q2)))
          · exact h8
          · unfold layS
            dsimp only
            refine ⟨or_ltn i1 (by omega), hnx, by have h5 := hcl rfl; show _ - _ ≤ 100; omega, ?_⟩
            rw [pop_or (by omega) (by omega) hb9]; omega
        · have h3 : ¬ (comb 4 (costN n nb 4 q1 v) (bbN n nb 4 (q1 ||| 2 ^ v)) ≤ q2) := fun h9 => h3 ((nI_leI (a := comb 4 (costN n nb 4 q1 v) (bbN n nb 4 (q1 ||| 2 ^ v))) (b := q2) (by omega) (by omega)).mpr h9)
          refine wp_go (f' := (67, [.ref 7, .int (nI 4), .ref 13, .int (nI q1), .int (nI q2), .int (nI k), .int ((nI v) + 1)], [], MW (upA A 13 q3) B F sw, 0, 0)) 1 rfl ?_
          rw [nI_1]
          refine wp_go (f' := (28, [.ref 7, .int (nI 4), .ref 13, .int (nI q1), .int (nI q2), .int (nI k), .int (nI (v + 1))], [], MW (upA A 13 q3) B F sw, 0, 0)) 1 rfl ?_
          have h9 : v ≠ (pickV n nb 4 q1 q2) := fun e => by rw [← e, next_comb, h2] at w2; simp at w2; omega
          exact ih2 (v + 1) (by omega) (by omega)
  · intro hq9 d6
    refine wp_go (f' := (22, [.ref 7, .int (nI 4), .ref 13, .int (nI (layN n nb 4 (A 13)).1), .int (nI (layN n nb 4 (A 13)).2.1), .int (nI n), d6], [.int (F 0), .int (nI n)], MW (upA A 13 (layN n nb 4 (A 13)).2.2) B F sw, 0, 0)) 4 rfl ?_
    rw [hC.2.1]
    refine wp_go (f' := ((if (nI n) ≤ (nI n) then 107 else 25), [.ref 7, .int (nI 4), .ref 13, .int (nI (layN n nb 4 (A 13)).1), .int (nI (layN n nb 4 (A 13)).2.1), .int (nI n), d6], [], MW (upA A 13 (layN n nb 4 (A 13)).2.2) B F sw, 0, 0)) 1 rfl ?_
    refine wp_ite (fun _ => ?_) (fun h9 => absurd (nI_le (Nat.le_refl _) (by omega)) h9)
    refine wp_go (f' := (112, [.ref 7, .int (nI 4), .ref 13, .int (nI (layN n nb 4 (A 13)).1), .int (nI (layN n nb 4 (A 13)).2.1), .int (nI n), d6], [.int (nI 0), .ref 16], MW (upA A 13 (layN n nb 4 (A 13)).2.2) B F sw, 0, 0)) 3 rfl ?_
    refine wp_iald rfl rfl (by omega) (by decide) ?_
    refine wp_eq (f' := (113, [.ref 7, .int (nI 4), .ref 13, .int (nI (layN n nb 4 (A 13)).1), .int (nI (layN n nb 4 (A 13)).2.1), .int (nI n), d6], [.int ((A 16) 0)], MW (upA A 13 (layN n nb 4 (A 13)).2.2) B F sw, 0, 0)) rfl ?_
    rw [hT 0 (by omega)]
    exact wp_iret rfl
end CC
