/-- what a settled kind leaves -/
def SP (A A2 : Nat → Nat → Int32) (F F2 : Nat → Int32) (n : Nat) (nb : Nat → Nat) (ed kd : Nat) : Prop := (∀ c, c ≤ 3 ∨ 23 ≤ c → A2 c = A c) ∧ (∀ c, c ≠ 3 → c ≠ 4 → c ≠ 5 → F2 c = F c) ∧ F2 3 = F2 2 ∧ RI A2 n nb ∧ CZ A2 ∧ OI A2 F2 n nb ed ∧ KD A2 n nb ed kd ∧ F2 5 = F2 2
theorem KD_congr {A A2 : Nat → Nat → Int32} {n : Nat} {nb : Nat → Nat} {ed k : Nat} (h1 : A2 (9 + k) = A (9 + k)) (h2 : A2 15 k = A 15 k) (h : KD A n nb ed k) : KD A2 n nb ed k := by
  unfold KD
  rw [h1, h2]
  exact h
theorem bit_or2 {st a k : Nat} (h : (st ||| 2 ^ a).testBit k = true) (hne : k ≠ a) : st.testBit k = true := by
  rw [Nat.testBit_or, Nat.testBit_two_pow, decide_eq_false (fun e => hne e.symm), Bool.or_false] at h
  exact h
/-- the set of the first k of a row -/
def setR (r : Nat → Nat) (k : Nat) : Nat := forN (fun j s => s ||| 2 ^ r j) k 0
theorem setR_lt {r : Nat → Nat} {n k : Nat} (h : ∀ j, j < k → r j < n) : setR r k < 2 ^ n := by
  refine forN_inv (I := fun _ (s : Nat) => s < 2 ^ n) Nat.one_le_two_pow (fun j s hj hs => ?_) k (Nat.le_refl _)
  exact or_ltn hs (h j hj)
section CC
variable {xs : Nat → Int32} {Ls : Nat} {A : Nat → Nat → Int32} {B : Nat → Nat → Int64} {F : Nat → Int32} {sw : Bool} {n : Nat} {nb : Nat → Nat}
theorem settle_0 (hC : CI A F n nb) (hZ : CZ A) (hco : F 3 = F 2 → RI A n nb) {ed : Nat} (hE : F 1 = nI ed) (hQ : CEd n nb ed) (hO : OI A F n nb ed) (hq : CQ n nb ed 0) : ∃ (A2 : Nat → Nat → Int32) (F2 : Nat → Int32), mv_Ev xs Ls 17 32 [.ref 7, .int (nI 0)] (MW A B F sw) (none, MW A2 B F2 sw, 0, 0) ∧ SP A A2 F F2 n nb ed 0 := by
  have hn := hC.1
  have hp := pow10 hn
  have hp1 : 1 ≤ 2 ^ n := Nat.one_le_two_pow
  have hal := all_lt hn
  obtain ⟨r4, r5, r6, hev, hR, hZ2⟩ := ev_rows_any (xs := xs) (Ls := Ls) (B := B) (sw := sw) hC hZ hco
  obtain ⟨st, hS, hst, hkd, hH, hW⟩ := hO
  have hC1 : CI (upA (upA (upA A 4 r4) 5 r5) 6 r6) (upF F 3 (F 2)) n nb := hC
  have hkA : ∀ k, k < 6 → KD A n nb ed k → KD (upA (upA (upA A 4 r4) 5 r5) 6 r6) n nb ed k := fun k hk h => KD_congr (A := A) (by rw [upA_ne (by omega), upA_ne (by omega), upA_ne (by omega)]) rfl h
  by_cases h5 : F 5 = F 2
  · cases hb : st.testBit 0 with
    | true =>
      refine ⟨(upA (upA (upA A 4 r4) 5 r5) 6 r6), (upF F 3 (F 2)), ?_, ?_⟩
      · skip
        refine ev_of_wp rfl rfl rfl ?_
        refine wp_go (f' := (4, [.ref 7, .int (nI 0)], [.ref 1], MW A B F sw, 0, 0)) 2 rfl ?_
        refine wp_call rfl rfl rfl (ev_up hev (by omega)) ?_
        refine wp_eq (f' := (7, [.ref 7, .int (nI 0)], [], MW (upA (upA (upA A 4 r4) 5 r5) 6 r6) B (upF F 3 (F 2)) sw, 0, 0)) rfl ?_
        refine wp_go (f' := ((if (F 5) = (F 2) then 37 else 21), [.ref 7, .int (nI 0)], [], MW (upA (upA (upA A 4 r4) 5 r5) 6 r6) B (upF F 3 (F 2)) sw, 0, 0)) 6 rfl ?_
        refine wp_ite (fun _ => ?_) (fun h9 => absurd h5 h9)
        refine wp_go (f' := (41, [.ref 7, .int (nI 0)], [.int (F 4)], MW (upA (upA (upA A 4 r4) 5 r5) 6 r6) B (upF F 3 (F 2)) sw, 0, 0)) 2 rfl ?_
        rw [hS]
        refine wp_go (f' := (45, [.ref 7, .int (nI 0)], [.int (((nI st) >>> ((nI 0) &&& 31)) &&& (nI 1))], MW (upA (upA (upA A 4 r4) 5 r5) 6 r6) B (upF F 3 (F 2)) sw, 0, 0)) 4 rfl ?_
        rw [bx_bit (by omega) (by omega)]
        refine wp_go (f' := ((if (bI (st.testBit 0)) = 0 then 49 else 48), [.ref 7, .int (nI 0)], [], MW (upA (upA (upA A 4 r4) 5 r5) 6 r6) B (upF F 3 (F 2)) sw, 0, 0)) 1 rfl ?_
        refine wp_ite (fun h9 => absurd h9 (by rw [hb]; decide)) (fun _ => ?_)
        exact wp_vret rfl
      · refine ⟨fun c hc => by rw [upA_ne (by omega), upA_ne (by omega), upA_ne (by omega)], fun c h3 h4 h5 => upF_ne h3, rfl, hR, hZ2, ⟨st, hS, hst, fun h k hk hbk => hkA k hk (hkd h5 k hk hbk), hH, hW⟩, hkA 0 (by omega) (hkd h5 0 (by omega) hb), h5⟩
    | false =>
      obtain ⟨A2, hWp, hF, hK, hR2, hZ3, hH2, hW2⟩ := lay_0 (xs := xs) (Ls := Ls) (B := B) (sw := sw) (A := (upA (upA (upA A 4 r4) 5 r5) 6 r6)) (F := (upF F 3 (F 2))) hC1 hR hZ2 hE hQ hH hW (st := st) hS hst hq
      refine ⟨A2, upF (upF F 3 (F 2)) 4 (nI (st ||| 1)), ?_, ?_⟩
      · skip
        refine ev_of_wp rfl rfl rfl ?_
        refine wp_go (f' := (4, [.ref 7, .int (nI 0)], [.ref 1], MW A B F sw, 0, 0)) 2 rfl ?_
        refine wp_call rfl rfl rfl (ev_up hev (by omega)) ?_
        refine wp_eq (f' := (7, [.ref 7, .int (nI 0)], [], MW (upA (upA (upA A 4 r4) 5 r5) 6 r6) B (upF F 3 (F 2)) sw, 0, 0)) rfl ?_
        refine wp_go (f' := ((if (F 5) = (F 2) then 37 else 21), [.ref 7, .int (nI 0)], [], MW (upA (upA (upA A 4 r4) 5 r5) 6 r6) B (upF F 3 (F 2)) sw, 0, 0)) 6 rfl ?_
        refine wp_ite (fun _ => ?_) (fun h9 => absurd h5 h9)
        refine wp_go (f' := (41, [.ref 7, .int (nI 0)], [.int (F 4)], MW (upA (upA (upA A 4 r4) 5 r5) 6 r6) B (upF F 3 (F 2)) sw, 0, 0)) 2 rfl ?_
        rw [hS]
        refine wp_go (f' := (45, [.ref 7, .int (nI 0)], [.int (((nI st) >>> ((nI 0) &&& 31)) &&& (nI 1))], MW (upA (upA (upA A 4 r4) 5 r5) 6 r6) B (upF F 3 (F 2)) sw, 0, 0)) 4 rfl ?_
        rw [bx_bit (by omega) (by omega)]
        refine wp_go (f' := ((if (bI (st.testBit 0)) = 0 then 49 else 48), [.ref 7, .int (nI 0)], [], MW (upA (upA (upA A 4 r4) 5 r5) 6 r6) B (upF F 3 (F 2)) sw, 0, 0)) 1 rfl ?_
        refine wp_ite (fun _ => ?_) (fun h9 => absurd (bI_f hb) h9)
        exact hWp
      · refine ⟨fun c hc => ?_, fun c h3 h4 h5 => ?_, rfl, hR2, hZ3, ⟨st ||| 1, rfl, or_64 hst (show 0 < 6 by omega), fun h k hk hbk => ?_, hH2, hW2⟩, hK, h5⟩
        · rw [hF.1 c (by omega), upA_ne (by omega), upA_ne (by omega), upA_ne (by omega)]
        · rw [upF_ne h4, upF_ne h3]
        · by_cases e : k = 0
          · rw [e]; exact hK
          · have h6 : (st ||| 2 ^ 0).testBit k = true := hbk
            exact KD_congr (hF.2 k hk e).1 (hF.2 k hk e).2 (hkA k hk (hkd h5 k hk (bit_or2 h6 e)))
  · skip
    obtain ⟨A2, hWp, hF, hK, hR2, hZ3, hH2, hW2⟩ := lay_0 (xs := xs) (Ls := Ls) (B := B) (sw := sw) (A := (upA (upA (upA A 4 r4) 5 r5) 6 r6)) (F := (upF (upF (upF F 3 (F 2)) 5 (F 2)) 4 (nI 0))) hC1 hR hZ2 hE hQ hH hW (st := 0) rfl (by omega) hq
    refine ⟨A2, upF (upF (upF (upF F 3 (F 2)) 5 (F 2)) 4 (nI 0)) 4 (nI (0 ||| 1)), ?_, ?_⟩
    · skip
      refine ev_of_wp rfl rfl rfl ?_
      refine wp_go (f' := (4, [.ref 7, .int (nI 0)], [.ref 1], MW A B F sw, 0, 0)) 2 rfl ?_
      refine wp_call rfl rfl rfl (ev_up hev (by omega)) ?_
      refine wp_eq (f' := (7, [.ref 7, .int (nI 0)], [], MW (upA (upA (upA A 4 r4) 5 r5) 6 r6) B (upF F 3 (F 2)) sw, 0, 0)) rfl ?_
      refine wp_go (f' := ((if (F 5) = (F 2) then 37 else 21), [.ref 7, .int (nI 0)], [], MW (upA (upA (upA A 4 r4) 5 r5) 6 r6) B (upF F 3 (F 2)) sw, 0, 0)) 6 rfl ?_
      refine wp_ite (fun h9 => absurd h9 h5) (fun _ => ?_)
      refine wp_go (f' := (45, [.ref 7, .int (nI 0)], [.int (((nI 0) >>> ((nI 0) &&& 31)) &&& (nI 1))], MW (upA (upA (upA A 4 r4) 5 r5) 6 r6) B (upF (upF (upF F 3 (F 2)) 5 (F 2)) 4 (nI 0)) sw, 0, 0)) 14 rfl ?_
      rw [(by decide : (nI 0 >>> (nI 0 &&& 31)) &&& nI 1 = nI 0)]
      refine wp_go (f' := ((if (nI 0) = 0 then 49 else 48), [.ref 7, .int (nI 0)], [], MW (upA (upA (upA A 4 r4) 5 r5) 6 r6) B (upF (upF (upF F 3 (F 2)) 5 (F 2)) 4 (nI 0)) sw, 0, 0)) 1 rfl ?_
      refine wp_ite (fun _ => ?_) (fun h9 => absurd rfl h9)
      exact hWp
    · refine ⟨fun c hc => ?_, fun c h3 h4 h5 => ?_, rfl, hR2, hZ3, ⟨0 ||| 1, rfl, by decide, fun h k hk hbk => ?_, hH2, hW2⟩, hK, rfl⟩
      · rw [hF.1 c (by omega), upA_ne (by omega), upA_ne (by omega), upA_ne (by omega)]
      · rw [upF_ne h4, upF_ne h4, upF_ne h5, upF_ne h3]
      · by_cases e : k = 0
        · rw [e]; exact hK
        · have h6 : (0 ||| 2 ^ 0).testBit k = true := hbk
          exact absurd (bit_or2 h6 e) (by simp)
theorem ev_seenF0 (hC : CI A F n nb) (hR : RI A n nb) {r : Nat → Nat} {k0 v : Nat} (hk0 : k0 < n) (hrow : ∀ j, j < n → A 9 j = nI (r j)) (hrn : ∀ j, j < n → r j < n) (hv : r k0 = v) (hne : ∀ j, j < k0 → r j ≠ v) : mv_Ev xs Ls 3 49 [.ref 7, .int (nI 0), .int (nI v)] (MW A B F sw) (some (.int (nI (pastN nb (setR r k0) v))), MW A B F sw, 0, 0) := by
  refine ev_of_wp rfl rfl rfl ?_
  have hn := hC.1
  have hp := pow10 hn
  have hp1 : 1 ≤ 2 ^ n := Nat.one_le_two_pow
  have hal := all_lt hn
  refine wp_go (f' := (5, [.ref 7, .int (nI 0), .int (nI v), .int (nI 0), .int (nI 0)], [], MW A B F sw, 0, 0)) 4 rfl ?_
  refine for_ind (P := fun (k s : Nat) => s < 2 ^ n → mv_Wp xs Ls 2 4 false (some .int) mv_c49 (5, [.ref 7, .int (nI 0), .int (nI v), .int (nI s), .int (nI k)], [], MW A B F sw, 0, 0) (some (.int (nI (pastN nb (setR r k0) v))), MW A B F sw, 0, 0)) (f := fun j s => s ||| 2 ^ r j) (n := k0) ?_ k0 0 (Nat.le_refl _) ?_ hp1
  · intro k s hk ih hs
    have hrk := hrn k (by omega)
    have hvn : v < n := hv ▸ hrn k0 hk0
    refine wp_go (f' := (14, [.ref 7, .int (nI 0), .int (nI v), .int (nI s), .int (nI k)], [.int (F 0), .int (nI k)], MW A B F sw, 0, 0)) 4 rfl ?_
    rw [hC.2.1]
    refine wp_go (f' := ((if (nI n) ≤ (nI k) then 50 else 17), [.ref 7, .int (nI 0), .int (nI v), .int (nI s), .int (nI k)], [], MW A B F sw, 0, 0)) 1 rfl ?_
    refine wp_ite (fun h9 => absurd h9 (nI_ge (by omega) (by omega))) (fun _ => ?_)
    refine wp_go (f' := (22, [.ref 7, .int (nI 0), .int (nI v), .int (nI s), .int (nI k)], [.int (nI 0), .ref 8], MW A B F sw, 0, 0)) 3 rfl ?_
    refine wp_aald rfl rfl (by decide) (by decide) ?_
    refine wp_eq (f' := (23, [.ref 7, .int (nI 0), .int (nI v), .int (nI s), .int (nI k)], [.ref 9], MW A B F sw, 0, 0)) rfl ?_
    refine wp_go (f' := (25, [.ref 7, .int (nI 0), .int (nI v), .int (nI s), .int (nI k)], [.int (nI k), .ref 9], MW A B F sw, 0, 0)) 1 rfl ?_
    refine wp_iald rfl rfl (by omega) (by decide) ?_
    rw [hrow k (by omega)]
    refine wp_go (f' := ((if (nI (r k)) = (nI v) then 50 else 30), [.ref 7, .int (nI 0), .int (nI v), .int (nI s), .int (nI k)], [], MW A B F sw, 0, 0)) 2 rfl ?_
    refine wp_ite (fun h9 => absurd h9 (fun h8 => hne k hk ((nI_eq (a := r k) (b := v) (by omega) (by omega)).mp h8))) (fun _ => ?_)
    refine wp_go (f' := (37, [.ref 7, .int (nI 0), .int (nI v), .int (nI s), .int (nI k)], [.int (nI 0), .ref 8, .int (nI 1), .int (nI s)], MW A B F sw, 0, 0)) 5 rfl ?_
    refine wp_aald rfl rfl (by decide) (by decide) ?_
    refine wp_eq (f' := (38, [.ref 7, .int (nI 0), .int (nI v), .int (nI s), .int (nI k)], [.ref 9, .int (nI 1), .int (nI s)], MW A B F sw, 0, 0)) rfl ?_
    refine wp_go (f' := (40, [.ref 7, .int (nI 0), .int (nI v), .int (nI s), .int (nI k)], [.int (nI k), .ref 9, .int (nI 1), .int (nI s)], MW A B F sw, 0, 0)) 1 rfl ?_
    refine wp_iald rfl rfl (by omega) (by decide) ?_
    rw [hrow k (by omega)]
    refine wp_go (f' := (42, [.ref 7, .int (nI 0), .int (nI v), .int (nI s), .int (nI k)], [.int ((nI 1) <<< ((nI (r k)) &&& 31)), .int (nI s)], MW A B F sw, 0, 0)) 1 rfl ?_
    rw [bx_one (by omega)]
    refine wp_go (f' := (43, [.ref 7, .int (nI 0), .int (nI v), .int (nI s), .int (nI k)], [.int ((nI s) ||| (nI (2 ^ (r k))))], MW A B F sw, 0, 0)) 1 rfl ?_
    rw [bx_or]
    refine wp_go (f' := (47, [.ref 7, .int (nI 0), .int (nI v), .int (nI (s ||| (2 ^ (r k)))), .int ((nI k) + 1)], [], MW A B F sw, 0, 0)) 2 rfl ?_
    rw [nI_1]
    refine wp_go (f' := (5, [.ref 7, .int (nI 0), .int (nI v), .int (nI (s ||| (2 ^ (r k)))), .int (nI (k + 1))], [], MW A B F sw, 0, 0)) 1 rfl ?_
    exact ih (or_ltn hs hrk)
  · intro hs
    have hsl := setR_lt (r := r) (n := n) (k := k0) (fun j hj => hrn j (by omega))
    refine wp_go (f' := (14, [.ref 7, .int (nI 0), .int (nI v), .int (nI (setR r k0)), .int (nI k0)], [.int (F 0), .int (nI k0)], MW A B F sw, 0, 0)) 4 rfl ?_
    rw [hC.2.1]
    refine wp_go (f' := ((if (nI n) ≤ (nI k0) then 50 else 17), [.ref 7, .int (nI 0), .int (nI v), .int (nI (setR r k0)), .int (nI k0)], [], MW A B F sw, 0, 0)) 1 rfl ?_
    refine wp_ite (fun h9 => absurd h9 (nI_ge (by omega) (by omega))) (fun _ => ?_)
    refine wp_go (f' := (22, [.ref 7, .int (nI 0), .int (nI v), .int (nI (setR r k0)), .int (nI k0)], [.int (nI 0), .ref 8], MW A B F sw, 0, 0)) 3 rfl ?_
    refine wp_aald rfl rfl (by decide) (by decide) ?_
    refine wp_eq (f' := (23, [.ref 7, .int (nI 0), .int (nI v), .int (nI (setR r k0)), .int (nI k0)], [.ref 9], MW A B F sw, 0, 0)) rfl ?_
    refine wp_go (f' := (25, [.ref 7, .int (nI 0), .int (nI v), .int (nI (setR r k0)), .int (nI k0)], [.int (nI k0), .ref 9], MW A B F sw, 0, 0)) 1 rfl ?_
    refine wp_iald rfl rfl (by omega) (by decide) ?_
    rw [hrow k0 (by omega)]
    refine wp_go (f' := ((if (nI (r k0)) = (nI v) then 50 else 30), [.ref 7, .int (nI 0), .int (nI v), .int (nI (setR r k0)), .int (nI k0)], [], MW A B F sw, 0, 0)) 2 rfl ?_
    refine wp_ite (fun _ => ?_) (fun h9 => absurd (congrArg nI hv) h9)
    refine wp_go (f' := (56, [.ref 7, .int (nI 0), .int (nI v), .int (nI (setR r k0)), .int (nI k0)], [.int (nI v), .int (nI (setR r k0)), .ref 1], MW A B F sw, 0, 0)) 4 rfl ?_
    refine wp_call rfl rfl rfl (ev_up (ev_gSees hC hR hsl (by have h7 := hrn k0 hk0; omega)) (by decide)) ?_
    refine wp_eq (f' := (59, [.ref 7, .int (nI 0), .int (nI v), .int (nI (setR r k0)), .int (nI k0)], [.int (nI (pastN nb (setR r k0) v))], MW A B F sw, 0, 0)) rfl ?_
    exact wp_iret rfl
theorem ev_kind0 : mv_Ev xs Ls 1 31 [.int (nI 0)] (MW A B F sw) (some (.int (nI 1)), MW A B F sw, 0, 0) := by
  refine ev_of_wp rfl rfl rfl ?_
  refine wp_go (f' := ((if (nI 0) < 0 then 14 else 4), [.int (nI 0)], [], MW A B F sw, 0, 0)) 2 rfl ?_
  refine wp_ite (fun h9 => absurd h9 (by decide)) (fun _ => ?_)
  refine wp_go (f' := ((if (nI 6) ≤ (nI 0) then 14 else 10), [.int (nI 0)], [], MW A B F sw, 0, 0)) 3 rfl ?_
  refine wp_ite (fun h9 => absurd h9 (by decide)) (fun _ => ?_)
  refine wp_go (f' := (15, [.int (nI 0)], [.int (nI 1)], MW A B F sw, 0, 0)) 2 rfl ?_
  exact wp_zret rfl (by first | exact Or.inl rfl | exact Or.inr rfl)
theorem ev_bWidth0 (hC : CI A F n nb) (hZ : CZ A) (hco : F 3 = F 2 → RI A n nb) {ed : Nat} (hE : F 1 = nI ed) (hQ : CEd n nb ed) (hO : OI A F n nb ed) (hq : CQ n nb ed 0) : ∃ (A2 : Nat → Nat → Int32) (F2 : Nat → Int32), mv_Ev xs Ls 18 30 [.ref 0, .int (nI 0)] (MW A B F sw) (some (.int (A2 15 0)), MW A2 B F2 sw, 0, 0) ∧ SP A A2 F F2 n nb ed 0 := by
  have hn := hC.1
  have hp := pow10 hn
  have hp1 : 1 ≤ 2 ^ n := Nat.one_le_two_pow
  have hal := all_lt hn
  obtain ⟨A2, F2, hev, hSP⟩ := settle_0 (xs := xs) (Ls := Ls) (B := B) (sw := sw) hC hZ hco hE hQ hO hq
  refine ⟨A2, F2, ?_, hSP⟩
  refine ev_of_wp rfl rfl rfl ?_
  refine wp_go (f' := (1, [.ref 0, .int (nI 0)], [.int (nI 0)], MW A B F sw, 0, 0)) 1 rfl ?_
  refine wp_call rfl rfl rfl (ev_up ev_kind0 (by omega)) ?_
  refine wp_eq (f' := (4, [.ref 0, .int (nI 0)], [.int (nI 1)], MW A B F sw, 0, 0)) rfl ?_
  refine wp_go (f' := ((if ¬ (nI 1) = 0 then 10 else 7), [.ref 0, .int (nI 0)], [], MW A B F sw, 0, 0)) 1 rfl ?_
  refine wp_ite (fun _ => ?_) (fun h9 => absurd (by decide) h9)
  refine wp_go (f' := (15, [.ref 0, .int (nI 0)], [.int (nI 0), .ref 7], MW A B F sw, 0, 0)) 3 rfl ?_
  refine wp_call rfl rfl rfl (ev_up hev (by omega)) ?_
  refine wp_eq (f' := (18, [.ref 0, .int (nI 0)], [], MW A2 B F2 sw, 0, 0)) rfl ?_
  refine wp_go (f' := (26, [.ref 0, .int (nI 0)], [.int (nI 0), .ref 15], MW A2 B F2 sw, 0, 0)) 4 rfl ?_
  refine wp_iald rfl rfl (by omega) (by decide) ?_
  exact wp_iret rfl
theorem ev_bOrder0 (hC : CI A F n nb) (hZ : CZ A) (hco : F 3 = F 2 → RI A n nb) {ed : Nat} (hE : F 1 = nI ed) (hQ : CEd n nb ed) (hO : OI A F n nb ed) (hq : CQ n nb ed 0) {k : Nat} (hk : k < n) : ∃ (A2 : Nat → Nat → Int32) (F2 : Nat → Int32), mv_Ev xs Ls 18 47 [.ref 0, .int (nI 0), .int (nI k)] (MW A B F sw) (some (.int (A2 9 k)), MW A2 B F2 sw, 0, 0) ∧ SP A A2 F F2 n nb ed 0 := by
  have hn := hC.1
  have hp := pow10 hn
  have hp1 : 1 ≤ 2 ^ n := Nat.one_le_two_pow
  have hal := all_lt hn
  obtain ⟨A2, F2, hev, hSP⟩ := settle_0 (xs := xs) (Ls := Ls) (B := B) (sw := sw) hC hZ hco hE hQ hO hq
  refine ⟨A2, F2, ?_, hSP⟩
  refine ev_of_wp rfl rfl rfl ?_
  refine wp_go (f' := (1, [.ref 0, .int (nI 0), .int (nI k)], [.int (nI 0)], MW A B F sw, 0, 0)) 1 rfl ?_
  refine wp_call rfl rfl rfl (ev_up ev_kind0 (by omega)) ?_
  refine wp_eq (f' := (4, [.ref 0, .int (nI 0), .int (nI k)], [.int (nI 1)], MW A B F sw, 0, 0)) rfl ?_
  refine wp_go (f' := ((if ¬ (nI 1) = 0 then 10 else 7), [.ref 0, .int (nI 0), .int (nI k)], [], MW A B F sw, 0, 0)) 1 rfl ?_
  refine wp_ite (fun _ => ?_) (fun h9 => absurd (by decide) h9)
  refine wp_go (f' := ((if (nI k) < 0 then 25 else 14), [.ref 0, .int (nI 0), .int (nI k)], [], MW A B F sw, 0, 0)) 2 rfl ?_
  refine wp_ite (fun h9 => absurd h9 (nI_pos (n := k) (by omega))) (fun _ => ?_)
  refine wp_go (f' := (22, [.ref 0, .int (nI 0), .int (nI k)], [.int (F 0), .int (nI k)], MW A B F sw, 0, 0)) 4 rfl ?_
  rw [hC.2.1]
  refine wp_go (f' := ((if (nI k) < (nI n) then 27 else 25), [.ref 0, .int (nI 0), .int (nI k)], [], MW A B F sw, 0, 0)) 1 rfl ?_
  refine wp_ite (fun _ => ?_) (fun h9 => absurd (nI_lt hk (by omega)) h9)
  refine wp_go (f' := (32, [.ref 0, .int (nI 0), .int (nI k)], [.int (nI 0), .ref 7], MW A B F sw, 0, 0)) 3 rfl ?_
  refine wp_call rfl rfl rfl (ev_up hev (by omega)) ?_
  refine wp_eq (f' := (35, [.ref 0, .int (nI 0), .int (nI k)], [], MW A2 B F2 sw, 0, 0)) rfl ?_
  refine wp_go (f' := (43, [.ref 0, .int (nI 0), .int (nI k)], [.int (nI 0), .ref 8], MW A2 B F2 sw, 0, 0)) 4 rfl ?_
  refine wp_aald rfl rfl (by decide) (by decide) ?_
  refine wp_eq (f' := (44, [.ref 0, .int (nI 0), .int (nI k)], [.ref 9], MW A2 B F2 sw, 0, 0)) rfl ?_
  refine wp_go (f' := (45, [.ref 0, .int (nI 0), .int (nI k)], [.int (nI k), .ref 9], MW A2 B F2 sw, 0, 0)) 1 rfl ?_
  refine wp_iald rfl rfl (by omega) (by decide) ?_
  exact wp_iret rfl
theorem ev_bSeen0 (hC : CI A F n nb) (hZ : CZ A) (hco : F 3 = F 2 → RI A n nb) {ed : Nat} (hE : F 1 = nI ed) (hQ : CEd n nb ed) (hO : OI A F n nb ed) (hq : CQ n nb ed 0) {v : Nat} (hv : v < n) : ∃ (A2 : Nat → Nat → Int32) (F2 : Nat → Int32), SP A A2 F F2 n nb ed 0 ∧ ∀ (r : Nat → Nat) (k0 : Nat), k0 < n → (∀ j, j < n → A2 9 j = nI (r j)) → (∀ j, j < n → r j < n) → r k0 = v → (∀ j, j < k0 → r j ≠ v) → mv_Ev xs Ls 18 48 [.ref 0, .int (nI 0), .int (nI v)] (MW A B F sw) (some (.int (nI (pastN nb (setR r k0) v))), MW A2 B F2 sw, 0, 0) := by
  have hn := hC.1
  have hp := pow10 hn
  have hp1 : 1 ≤ 2 ^ n := Nat.one_le_two_pow
  have hal := all_lt hn
  obtain ⟨A2, F2, hev, hSP⟩ := settle_0 (xs := xs) (Ls := Ls) (B := B) (sw := sw) hC hZ hco hE hQ hO hq
  refine ⟨A2, F2, hSP, fun r k0 hk0 hrow hrn hrv hne => ?_⟩
  have hC9 : CI A2 F2 n nb := ⟨hn, (hSP.2.1 0 (by decide) (by decide) (by decide)).trans hC.2.1, fun v hv => by rw [hSP.1 2 (by omega)]; exact hC.2.2.1 v hv, hC.2.2.2⟩
  refine ev_of_wp rfl rfl rfl ?_
  refine wp_go (f' := (1, [.ref 0, .int (nI 0), .int (nI v)], [.int (nI 0)], MW A B F sw, 0, 0)) 1 rfl ?_
  refine wp_call rfl rfl rfl (ev_up ev_kind0 (by omega)) ?_
  refine wp_eq (f' := (4, [.ref 0, .int (nI 0), .int (nI v)], [.int (nI 1)], MW A B F sw, 0, 0)) rfl ?_
  refine wp_go (f' := ((if (nI 1) = 0 then 18 else 7), [.ref 0, .int (nI 0), .int (nI v)], [], MW A B F sw, 0, 0)) 1 rfl ?_
  refine wp_ite (fun h9 => absurd h9 (by decide)) (fun _ => ?_)
  refine wp_go (f' := (12, [.ref 0, .int (nI 0), .int (nI v)], [.int (nI v), .ref 1], MW A B F sw, 0, 0)) 3 rfl ?_
  refine wp_call rfl rfl rfl (ev_up (ev_gHas hC (nI v)) (by omega)) ?_
  refine wp_eq (f' := (15, [.ref 0, .int (nI 0), .int (nI v)], [.int (bI (isV (nI v) n))], MW A B F sw, 0, 0)) rfl ?_
  refine wp_go (f' := ((if ¬ (bI (isV (nI v) n)) = 0 then 21 else 18), [.ref 0, .int (nI 0), .int (nI v)], [], MW A B F sw, 0, 0)) 1 rfl ?_
  refine wp_ite (fun _ => ?_) (fun h9 => absurd (by rw [isV_t hn hv]; decide) h9)
  refine wp_go (f' := (26, [.ref 0, .int (nI 0), .int (nI v)], [.int (nI 0), .ref 7], MW A B F sw, 0, 0)) 3 rfl ?_
  refine wp_call rfl rfl rfl (ev_up hev (by omega)) ?_
  refine wp_eq (f' := (29, [.ref 0, .int (nI 0), .int (nI v)], [], MW A2 B F2 sw, 0, 0)) rfl ?_
  refine wp_go (f' := (35, [.ref 0, .int (nI 0), .int (nI v)], [.int (nI v), .int (nI 0), .ref 7], MW A2 B F2 sw, 0, 0)) 4 rfl ?_
  refine wp_call rfl rfl rfl (ev_up (ev_seenF0 hC9 hSP.2.2.2.1 hk0 hrow hrn hrv hne) (by omega)) ?_
  refine wp_eq (f' := (38, [.ref 0, .int (nI 0), .int (nI v)], [.int (nI (pastN nb (setR r k0) v))], MW A2 B F2 sw, 0, 0)) rfl ?_
  exact wp_iret rfl
theorem settle_1 (hC : CI A F n nb) (hZ : CZ A) (hco : F 3 = F 2 → RI A n nb) {ed : Nat} (hE : F 1 = nI ed) (hQ : CEd n nb ed) (hO : OI A F n nb ed) (hq : CQ n nb ed 1) : ∃ (A2 : Nat → Nat → Int32) (F2 : Nat → Int32), mv_Ev xs Ls 17 32 [.ref 7, .int (nI 1)] (MW A B F sw) (none, MW A2 B F2 sw, 0, 0) ∧ SP A A2 F F2 n nb ed 1 := by
  have hn := hC.1
  have hp := pow10 hn
  have hp1 : 1 ≤ 2 ^ n := Nat.one_le_two_pow
  have hal := all_lt hn
  obtain ⟨r4, r5, r6, hev, hR, hZ2⟩ := ev_rows_any (xs := xs) (Ls := Ls) (B := B) (sw := sw) hC hZ hco
  obtain ⟨st, hS, hst, hkd, hH, hW⟩ := hO
  have hC1 : CI (upA (upA (upA A 4 r4) 5 r5) 6 r6) (upF F 3 (F 2)) n nb := hC
  have hkA : ∀ k, k < 6 → KD A n nb ed k → KD (upA (upA (upA A 4 r4) 5 r5) 6 r6) n nb ed k := fun k hk h => KD_congr (A := A) (by rw [upA_ne (by omega), upA_ne (by omega), upA_ne (by omega)]) rfl h
  by_cases h5 : F 5 = F 2
  · cases hb : st.testBit 1 with
    | true =>
      refine ⟨(upA (upA (upA A 4 r4) 5 r5) 6 r6), (upF F 3 (F 2)), ?_, ?_⟩
      · skip
        refine ev_of_wp rfl rfl rfl ?_
        refine wp_go (f' := (4, [.ref 7, .int (nI 1)], [.ref 1], MW A B F sw, 0, 0)) 2 rfl ?_
        refine wp_call rfl rfl rfl (ev_up hev (by omega)) ?_
        refine wp_eq (f' := (7, [.ref 7, .int (nI 1)], [], MW (upA (upA (upA A 4 r4) 5 r5) 6 r6) B (upF F 3 (F 2)) sw, 0, 0)) rfl ?_
        refine wp_go (f' := ((if (F 5) = (F 2) then 37 else 21), [.ref 7, .int (nI 1)], [], MW (upA (upA (upA A 4 r4) 5 r5) 6 r6) B (upF F 3 (F 2)) sw, 0, 0)) 6 rfl ?_
        refine wp_ite (fun _ => ?_) (fun h9 => absurd h5 h9)
        refine wp_go (f' := (41, [.ref 7, .int (nI 1)], [.int (F 4)], MW (upA (upA (upA A 4 r4) 5 r5) 6 r6) B (upF F 3 (F 2)) sw, 0, 0)) 2 rfl ?_
        rw [hS]
        refine wp_go (f' := (45, [.ref 7, .int (nI 1)], [.int (((nI st) >>> ((nI 1) &&& 31)) &&& (nI 1))], MW (upA (upA (upA A 4 r4) 5 r5) 6 r6) B (upF F 3 (F 2)) sw, 0, 0)) 4 rfl ?_
        rw [bx_bit (by omega) (by omega)]
        refine wp_go (f' := ((if (bI (st.testBit 1)) = 0 then 49 else 48), [.ref 7, .int (nI 1)], [], MW (upA (upA (upA A 4 r4) 5 r5) 6 r6) B (upF F 3 (F 2)) sw, 0, 0)) 1 rfl ?_
        refine wp_ite (fun h9 => absurd h9 (by rw [hb]; decide)) (fun _ => ?_)
        exact wp_vret rfl
      · refine ⟨fun c hc => by rw [upA_ne (by omega), upA_ne (by omega), upA_ne (by omega)], fun c h3 h4 h5 => upF_ne h3, rfl, hR, hZ2, ⟨st, hS, hst, fun h k hk hbk => hkA k hk (hkd h5 k hk hbk), hH, hW⟩, hkA 1 (by omega) (hkd h5 1 (by omega) hb), h5⟩
    | false =>
      obtain ⟨A2, hWp, hF, hK, hR2, hZ3, hH2, hW2⟩ := lay_1 (xs := xs) (Ls := Ls) (B := B) (sw := sw) (A := (upA (upA (upA A 4 r4) 5 r5) 6 r6)) (F := (upF F 3 (F 2))) hC1 hR hZ2 hE hQ hH hW (st := st) hS hst hq
      refine ⟨A2, upF (upF F 3 (F 2)) 4 (nI (st ||| 2)), ?_, ?_⟩
      · skip
        refine ev_of_wp rfl rfl rfl ?_
        refine wp_go (f' := (4, [.ref 7, .int (nI 1)], [.ref 1], MW A B F sw, 0, 0)) 2 rfl ?_
        refine wp_call rfl rfl rfl (ev_up hev (by omega)) ?_
        refine wp_eq (f' := (7, [.ref 7, .int (nI 1)], [], MW (upA (upA (upA A 4 r4) 5 r5) 6 r6) B (upF F 3 (F 2)) sw, 0, 0)) rfl ?_
        refine wp_go (f' := ((if (F 5) = (F 2) then 37 else 21), [.ref 7, .int (nI 1)], [], MW (upA (upA (upA A 4 r4) 5 r5) 6 r6) B (upF F 3 (F 2)) sw, 0, 0)) 6 rfl ?_
        refine wp_ite (fun _ => ?_) (fun h9 => absurd h5 h9)
        refine wp_go (f' := (41, [.ref 7, .int (nI 1)], [.int (F 4)], MW (upA (upA (upA A 4 r4) 5 r5) 6 r6) B (upF F 3 (F 2)) sw, 0, 0)) 2 rfl ?_
        rw [hS]
        refine wp_go (f' := (45, [.ref 7, .int (nI 1)], [.int (((nI st) >>> ((nI 1) &&& 31)) &&& (nI 1))], MW (upA (upA (upA A 4 r4) 5 r5) 6 r6) B (upF F 3 (F 2)) sw, 0, 0)) 4 rfl ?_
        rw [bx_bit (by omega) (by omega)]
        refine wp_go (f' := ((if (bI (st.testBit 1)) = 0 then 49 else 48), [.ref 7, .int (nI 1)], [], MW (upA (upA (upA A 4 r4) 5 r5) 6 r6) B (upF F 3 (F 2)) sw, 0, 0)) 1 rfl ?_
        refine wp_ite (fun _ => ?_) (fun h9 => absurd (bI_f hb) h9)
        exact hWp
      · refine ⟨fun c hc => ?_, fun c h3 h4 h5 => ?_, rfl, hR2, hZ3, ⟨st ||| 2, rfl, or_64 hst (show 1 < 6 by omega), fun h k hk hbk => ?_, hH2, hW2⟩, hK, h5⟩
        · rw [hF.1 c (by omega), upA_ne (by omega), upA_ne (by omega), upA_ne (by omega)]
        · rw [upF_ne h4, upF_ne h3]
        · by_cases e : k = 1
          · rw [e]; exact hK
          · have h6 : (st ||| 2 ^ 1).testBit k = true := hbk
            exact KD_congr (hF.2 k hk e).1 (hF.2 k hk e).2 (hkA k hk (hkd h5 k hk (bit_or2 h6 e)))
  · skip
    obtain ⟨A2, hWp, hF, hK, hR2, hZ3, hH2, hW2⟩ := lay_1 (xs := xs) (Ls := Ls) (B := B) (sw := sw) (A := (upA (upA (upA A 4 r4) 5 r5) 6 r6)) (F := (upF (upF (upF F 3 (F 2)) 5 (F 2)) 4 (nI 0))) hC1 hR hZ2 hE hQ hH hW (st := 0) rfl (by omega) hq
    refine ⟨A2, upF (upF (upF (upF F 3 (F 2)) 5 (F 2)) 4 (nI 0)) 4 (nI (0 ||| 2)), ?_, ?_⟩
    · skip
      refine ev_of_wp rfl rfl rfl ?_
      refine wp_go (f' := (4, [.ref 7, .int (nI 1)], [.ref 1], MW A B F sw, 0, 0)) 2 rfl ?_
      refine wp_call rfl rfl rfl (ev_up hev (by omega)) ?_
      refine wp_eq (f' := (7, [.ref 7, .int (nI 1)], [], MW (upA (upA (upA A 4 r4) 5 r5) 6 r6) B (upF F 3 (F 2)) sw, 0, 0)) rfl ?_
      refine wp_go (f' := ((if (F 5) = (F 2) then 37 else 21), [.ref 7, .int (nI 1)], [], MW (upA (upA (upA A 4 r4) 5 r5) 6 r6) B (upF F 3 (F 2)) sw, 0, 0)) 6 rfl ?_
      refine wp_ite (fun h9 => absurd h9 h5) (fun _ => ?_)
      refine wp_go (f' := (45, [.ref 7, .int (nI 1)], [.int (((nI 0) >>> ((nI 1) &&& 31)) &&& (nI 1))], MW (upA (upA (upA A 4 r4) 5 r5) 6 r6) B (upF (upF (upF F 3 (F 2)) 5 (F 2)) 4 (nI 0)) sw, 0, 0)) 14 rfl ?_
      rw [(by decide : (nI 0 >>> (nI 1 &&& 31)) &&& nI 1 = nI 0)]
      refine wp_go (f' := ((if (nI 0) = 0 then 49 else 48), [.ref 7, .int (nI 1)], [], MW (upA (upA (upA A 4 r4) 5 r5) 6 r6) B (upF (upF (upF F 3 (F 2)) 5 (F 2)) 4 (nI 0)) sw, 0, 0)) 1 rfl ?_
      refine wp_ite (fun _ => ?_) (fun h9 => absurd rfl h9)
      exact hWp
    · refine ⟨fun c hc => ?_, fun c h3 h4 h5 => ?_, rfl, hR2, hZ3, ⟨0 ||| 2, rfl, by decide, fun h k hk hbk => ?_, hH2, hW2⟩, hK, rfl⟩
      · rw [hF.1 c (by omega), upA_ne (by omega), upA_ne (by omega), upA_ne (by omega)]
      · rw [upF_ne h4, upF_ne h4, upF_ne h5, upF_ne h3]
      · by_cases e : k = 1
        · rw [e]; exact hK
        · have h6 : (0 ||| 2 ^ 1).testBit k = true := hbk
          exact absurd (bit_or2 h6 e) (by simp)
theorem ev_seenF1 (hC : CI A F n nb) (hR : RI A n nb) {r : Nat → Nat} {k0 v : Nat} (hk0 : k0 < n) (hrow : ∀ j, j < n → A 10 j = nI (r j)) (hrn : ∀ j, j < n → r j < n) (hv : r k0 = v) (hne : ∀ j, j < k0 → r j ≠ v) : mv_Ev xs Ls 3 49 [.ref 7, .int (nI 1), .int (nI v)] (MW A B F sw) (some (.int (nI (pastN nb (setR r k0) v))), MW A B F sw, 0, 0) := by
  refine ev_of_wp rfl rfl rfl ?_
  have hn := hC.1
  have hp := pow10 hn
  have hp1 : 1 ≤ 2 ^ n := Nat.one_le_two_pow
  have hal := all_lt hn
  refine wp_go (f' := (5, [.ref 7, .int (nI 1), .int (nI v), .int (nI 0), .int (nI 0)], [], MW A B F sw, 0, 0)) 4 rfl ?_
  refine for_ind (P := fun (k s : Nat) => s < 2 ^ n → mv_Wp xs Ls 2 4 false (some .int) mv_c49 (5, [.ref 7, .int (nI 1), .int (nI v), .int (nI s), .int (nI k)], [], MW A B F sw, 0, 0) (some (.int (nI (pastN nb (setR r k0) v))), MW A B F sw, 0, 0)) (f := fun j s => s ||| 2 ^ r j) (n := k0) ?_ k0 0 (Nat.le_refl _) ?_ hp1
  · intro k s hk ih hs
    have hrk := hrn k (by omega)
    have hvn : v < n := hv ▸ hrn k0 hk0
    refine wp_go (f' := (14, [.ref 7, .int (nI 1), .int (nI v), .int (nI s), .int (nI k)], [.int (F 0), .int (nI k)], MW A B F sw, 0, 0)) 4 rfl ?_
    rw [hC.2.1]
    refine wp_go (f' := ((if (nI n) ≤ (nI k) then 50 else 17), [.ref 7, .int (nI 1), .int (nI v), .int (nI s), .int (nI k)], [], MW A B F sw, 0, 0)) 1 rfl ?_
    refine wp_ite (fun h9 => absurd h9 (nI_ge (by omega) (by omega))) (fun _ => ?_)
    refine wp_go (f' := (22, [.ref 7, .int (nI 1), .int (nI v), .int (nI s), .int (nI k)], [.int (nI 1), .ref 8], MW A B F sw, 0, 0)) 3 rfl ?_
    refine wp_aald rfl rfl (by decide) (by decide) ?_
    refine wp_eq (f' := (23, [.ref 7, .int (nI 1), .int (nI v), .int (nI s), .int (nI k)], [.ref 10], MW A B F sw, 0, 0)) rfl ?_
    refine wp_go (f' := (25, [.ref 7, .int (nI 1), .int (nI v), .int (nI s), .int (nI k)], [.int (nI k), .ref 10], MW A B F sw, 0, 0)) 1 rfl ?_
    refine wp_iald rfl rfl (by omega) (by decide) ?_
    rw [hrow k (by omega)]
    refine wp_go (f' := ((if (nI (r k)) = (nI v) then 50 else 30), [.ref 7, .int (nI 1), .int (nI v), .int (nI s), .int (nI k)], [], MW A B F sw, 0, 0)) 2 rfl ?_
    refine wp_ite (fun h9 => absurd h9 (fun h8 => hne k hk ((nI_eq (a := r k) (b := v) (by omega) (by omega)).mp h8))) (fun _ => ?_)
    refine wp_go (f' := (37, [.ref 7, .int (nI 1), .int (nI v), .int (nI s), .int (nI k)], [.int (nI 1), .ref 8, .int (nI 1), .int (nI s)], MW A B F sw, 0, 0)) 5 rfl ?_
    refine wp_aald rfl rfl (by decide) (by decide) ?_
    refine wp_eq (f' := (38, [.ref 7, .int (nI 1), .int (nI v), .int (nI s), .int (nI k)], [.ref 10, .int (nI 1), .int (nI s)], MW A B F sw, 0, 0)) rfl ?_
    refine wp_go (f' := (40, [.ref 7, .int (nI 1), .int (nI v), .int (nI s), .int (nI k)], [.int (nI k), .ref 10, .int (nI 1), .int (nI s)], MW A B F sw, 0, 0)) 1 rfl ?_
    refine wp_iald rfl rfl (by omega) (by decide) ?_
    rw [hrow k (by omega)]
    refine wp_go (f' := (42, [.ref 7, .int (nI 1), .int (nI v), .int (nI s), .int (nI k)], [.int ((nI 1) <<< ((nI (r k)) &&& 31)), .int (nI s)], MW A B F sw, 0, 0)) 1 rfl ?_
    rw [bx_one (by omega)]
    refine wp_go (f' := (43, [.ref 7, .int (nI 1), .int (nI v), .int (nI s), .int (nI k)], [.int ((nI s) ||| (nI (2 ^ (r k))))], MW A B F sw, 0, 0)) 1 rfl ?_
    rw [bx_or]
    refine wp_go (f' := (47, [.ref 7, .int (nI 1), .int (nI v), .int (nI (s ||| (2 ^ (r k)))), .int ((nI k) + 1)], [], MW A B F sw, 0, 0)) 2 rfl ?_
    rw [nI_1]
    refine wp_go (f' := (5, [.ref 7, .int (nI 1), .int (nI v), .int (nI (s ||| (2 ^ (r k)))), .int (nI (k + 1))], [], MW A B F sw, 0, 0)) 1 rfl ?_
    exact ih (or_ltn hs hrk)
  · intro hs
    have hsl := setR_lt (r := r) (n := n) (k := k0) (fun j hj => hrn j (by omega))
    refine wp_go (f' := (14, [.ref 7, .int (nI 1), .int (nI v), .int (nI (setR r k0)), .int (nI k0)], [.int (F 0), .int (nI k0)], MW A B F sw, 0, 0)) 4 rfl ?_
    rw [hC.2.1]
    refine wp_go (f' := ((if (nI n) ≤ (nI k0) then 50 else 17), [.ref 7, .int (nI 1), .int (nI v), .int (nI (setR r k0)), .int (nI k0)], [], MW A B F sw, 0, 0)) 1 rfl ?_
    refine wp_ite (fun h9 => absurd h9 (nI_ge (by omega) (by omega))) (fun _ => ?_)
    refine wp_go (f' := (22, [.ref 7, .int (nI 1), .int (nI v), .int (nI (setR r k0)), .int (nI k0)], [.int (nI 1), .ref 8], MW A B F sw, 0, 0)) 3 rfl ?_
    refine wp_aald rfl rfl (by decide) (by decide) ?_
    refine wp_eq (f' := (23, [.ref 7, .int (nI 1), .int (nI v), .int (nI (setR r k0)), .int (nI k0)], [.ref 10], MW A B F sw, 0, 0)) rfl ?_
    refine wp_go (f' := (25, [.ref 7, .int (nI 1), .int (nI v), .int (nI (setR r k0)), .int (nI k0)], [.int (nI k0), .ref 10], MW A B F sw, 0, 0)) 1 rfl ?_
    refine wp_iald rfl rfl (by omega) (by decide) ?_
    rw [hrow k0 (by omega)]
    refine wp_go (f' := ((if (nI (r k0)) = (nI v) then 50 else 30), [.ref 7, .int (nI 1), .int (nI v), .int (nI (setR r k0)), .int (nI k0)], [], MW A B F sw, 0, 0)) 2 rfl ?_
    refine wp_ite (fun _ => ?_) (fun h9 => absurd (congrArg nI hv) h9)
    refine wp_go (f' := (56, [.ref 7, .int (nI 1), .int (nI v), .int (nI (setR r k0)), .int (nI k0)], [.int (nI v), .int (nI (setR r k0)), .ref 1], MW A B F sw, 0, 0)) 4 rfl ?_
    refine wp_call rfl rfl rfl (ev_up (ev_gSees hC hR hsl (by have h7 := hrn k0 hk0; omega)) (by decide)) ?_
    refine wp_eq (f' := (59, [.ref 7, .int (nI 1), .int (nI v), .int (nI (setR r k0)), .int (nI k0)], [.int (nI (pastN nb (setR r k0) v))], MW A B F sw, 0, 0)) rfl ?_
    exact wp_iret rfl
theorem ev_kind1 : mv_Ev xs Ls 1 31 [.int (nI 1)] (MW A B F sw) (some (.int (nI 1)), MW A B F sw, 0, 0) := by
  refine ev_of_wp rfl rfl rfl ?_
  refine wp_go (f' := ((if (nI 1) < 0 then 14 else 4), [.int (nI 1)], [], MW A B F sw, 0, 0)) 2 rfl ?_
  refine wp_ite (fun h9 => absurd h9 (by decide)) (fun _ => ?_)
  refine wp_go (f' := ((if (nI 6) ≤ (nI 1) then 14 else 10), [.int (nI 1)], [], MW A B F sw, 0, 0)) 3 rfl ?_
  refine wp_ite (fun h9 => absurd h9 (by decide)) (fun _ => ?_)
  refine wp_go (f' := (15, [.int (nI 1)], [.int (nI 1)], MW A B F sw, 0, 0)) 2 rfl ?_
  exact wp_zret rfl (by first | exact Or.inl rfl | exact Or.inr rfl)
theorem ev_bWidth1 (hC : CI A F n nb) (hZ : CZ A) (hco : F 3 = F 2 → RI A n nb) {ed : Nat} (hE : F 1 = nI ed) (hQ : CEd n nb ed) (hO : OI A F n nb ed) (hq : CQ n nb ed 1) : ∃ (A2 : Nat → Nat → Int32) (F2 : Nat → Int32), mv_Ev xs Ls 18 30 [.ref 0, .int (nI 1)] (MW A B F sw) (some (.int (A2 15 1)), MW A2 B F2 sw, 0, 0) ∧ SP A A2 F F2 n nb ed 1 := by
  have hn := hC.1
  have hp := pow10 hn
  have hp1 : 1 ≤ 2 ^ n := Nat.one_le_two_pow
  have hal := all_lt hn
  obtain ⟨A2, F2, hev, hSP⟩ := settle_1 (xs := xs) (Ls := Ls) (B := B) (sw := sw) hC hZ hco hE hQ hO hq
  refine ⟨A2, F2, ?_, hSP⟩
  refine ev_of_wp rfl rfl rfl ?_
  refine wp_go (f' := (1, [.ref 0, .int (nI 1)], [.int (nI 1)], MW A B F sw, 0, 0)) 1 rfl ?_
  refine wp_call rfl rfl rfl (ev_up ev_kind1 (by omega)) ?_
  refine wp_eq (f' := (4, [.ref 0, .int (nI 1)], [.int (nI 1)], MW A B F sw, 0, 0)) rfl ?_
  refine wp_go (f' := ((if ¬ (nI 1) = 0 then 10 else 7), [.ref 0, .int (nI 1)], [], MW A B F sw, 0, 0)) 1 rfl ?_
  refine wp_ite (fun _ => ?_) (fun h9 => absurd (by decide) h9)
  refine wp_go (f' := (15, [.ref 0, .int (nI 1)], [.int (nI 1), .ref 7], MW A B F sw, 0, 0)) 3 rfl ?_
  refine wp_call rfl rfl rfl (ev_up hev (by omega)) ?_
  refine wp_eq (f' := (18, [.ref 0, .int (nI 1)], [], MW A2 B F2 sw, 0, 0)) rfl ?_
  refine wp_go (f' := (26, [.ref 0, .int (nI 1)], [.int (nI 1), .ref 15], MW A2 B F2 sw, 0, 0)) 4 rfl ?_
  refine wp_iald rfl rfl (by omega) (by decide) ?_
  exact wp_iret rfl
theorem ev_bOrder1 (hC : CI A F n nb) (hZ : CZ A) (hco : F 3 = F 2 → RI A n nb) {ed : Nat} (hE : F 1 = nI ed) (hQ : CEd n nb ed) (hO : OI A F n nb ed) (hq : CQ n nb ed 1) {k : Nat} (hk : k < n) : ∃ (A2 : Nat → Nat → Int32) (F2 : Nat → Int32), mv_Ev xs Ls 18 47 [.ref 0, .int (nI 1), .int (nI k)] (MW A B F sw) (some (.int (A2 10 k)), MW A2 B F2 sw, 0, 0) ∧ SP A A2 F F2 n nb ed 1 := by
  have hn := hC.1
  have hp := pow10 hn
  have hp1 : 1 ≤ 2 ^ n := Nat.one_le_two_pow
  have hal := all_lt hn
  obtain ⟨A2, F2, hev, hSP⟩ := settle_1 (xs := xs) (Ls := Ls) (B := B) (sw := sw) hC hZ hco hE hQ hO hq
  refine ⟨A2, F2, ?_, hSP⟩
  refine ev_of_wp rfl rfl rfl ?_
  refine wp_go (f' := (1, [.ref 0, .int (nI 1), .int (nI k)], [.int (nI 1)], MW A B F sw, 0, 0)) 1 rfl ?_
  refine wp_call rfl rfl rfl (ev_up ev_kind1 (by omega)) ?_
  refine wp_eq (f' := (4, [.ref 0, .int (nI 1), .int (nI k)], [.int (nI 1)], MW A B F sw, 0, 0)) rfl ?_
  refine wp_go (f' := ((if ¬ (nI 1) = 0 then 10 else 7), [.ref 0, .int (nI 1), .int (nI k)], [], MW A B F sw, 0, 0)) 1 rfl ?_
  refine wp_ite (fun _ => ?_) (fun h9 => absurd (by decide) h9)
  refine wp_go (f' := ((if (nI k) < 0 then 25 else 14), [.ref 0, .int (nI 1), .int (nI k)], [], MW A B F sw, 0, 0)) 2 rfl ?_
  refine wp_ite (fun h9 => absurd h9 (nI_pos (n := k) (by omega))) (fun _ => ?_)
  refine wp_go (f' := (22, [.ref 0, .int (nI 1), .int (nI k)], [.int (F 0), .int (nI k)], MW A B F sw, 0, 0)) 4 rfl ?_
  rw [hC.2.1]
  refine wp_go (f' := ((if (nI k) < (nI n) then 27 else 25), [.ref 0, .int (nI 1), .int (nI k)], [], MW A B F sw, 0, 0)) 1 rfl ?_
  refine wp_ite (fun _ => ?_) (fun h9 => absurd (nI_lt hk (by omega)) h9)
  refine wp_go (f' := (32, [.ref 0, .int (nI 1), .int (nI k)], [.int (nI 1), .ref 7], MW A B F sw, 0, 0)) 3 rfl ?_
  refine wp_call rfl rfl rfl (ev_up hev (by omega)) ?_
  refine wp_eq (f' := (35, [.ref 0, .int (nI 1), .int (nI k)], [], MW A2 B F2 sw, 0, 0)) rfl ?_
  refine wp_go (f' := (43, [.ref 0, .int (nI 1), .int (nI k)], [.int (nI 1), .ref 8], MW A2 B F2 sw, 0, 0)) 4 rfl ?_
  refine wp_aald rfl rfl (by decide) (by decide) ?_
  refine wp_eq (f' := (44, [.ref 0, .int (nI 1), .int (nI k)], [.ref 10], MW A2 B F2 sw, 0, 0)) rfl ?_
  refine wp_go (f' := (45, [.ref 0, .int (nI 1), .int (nI k)], [.int (nI k), .ref 10], MW A2 B F2 sw, 0, 0)) 1 rfl ?_
  refine wp_iald rfl rfl (by omega) (by decide) ?_
  exact wp_iret rfl
theorem ev_bSeen1 (hC : CI A F n nb) (hZ : CZ A) (hco : F 3 = F 2 → RI A n nb) {ed : Nat} (hE : F 1 = nI ed) (hQ : CEd n nb ed) (hO : OI A F n nb ed) (hq : CQ n nb ed 1) {v : Nat} (hv : v < n) : ∃ (A2 : Nat → Nat → Int32) (F2 : Nat → Int32), SP A A2 F F2 n nb ed 1 ∧ ∀ (r : Nat → Nat) (k0 : Nat), k0 < n → (∀ j, j < n → A2 10 j = nI (r j)) → (∀ j, j < n → r j < n) → r k0 = v → (∀ j, j < k0 → r j ≠ v) → mv_Ev xs Ls 18 48 [.ref 0, .int (nI 1), .int (nI v)] (MW A B F sw) (some (.int (nI (pastN nb (setR r k0) v))), MW A2 B F2 sw, 0, 0) := by
  have hn := hC.1
  have hp := pow10 hn
  have hp1 : 1 ≤ 2 ^ n := Nat.one_le_two_pow
  have hal := all_lt hn
  obtain ⟨A2, F2, hev, hSP⟩ := settle_1 (xs := xs) (Ls := Ls) (B := B) (sw := sw) hC hZ hco hE hQ hO hq
  refine ⟨A2, F2, hSP, fun r k0 hk0 hrow hrn hrv hne => ?_⟩
  have hC9 : CI A2 F2 n nb := ⟨hn, (hSP.2.1 0 (by decide) (by decide) (by decide)).trans hC.2.1, fun v hv => by rw [hSP.1 2 (by omega)]; exact hC.2.2.1 v hv, hC.2.2.2⟩
  refine ev_of_wp rfl rfl rfl ?_
  refine wp_go (f' := (1, [.ref 0, .int (nI 1), .int (nI v)], [.int (nI 1)], MW A B F sw, 0, 0)) 1 rfl ?_
  refine wp_call rfl rfl rfl (ev_up ev_kind1 (by omega)) ?_
  refine wp_eq (f' := (4, [.ref 0, .int (nI 1), .int (nI v)], [.int (nI 1)], MW A B F sw, 0, 0)) rfl ?_
  refine wp_go (f' := ((if (nI 1) = 0 then 18 else 7), [.ref 0, .int (nI 1), .int (nI v)], [], MW A B F sw, 0, 0)) 1 rfl ?_
  refine wp_ite (fun h9 => absurd h9 (by decide)) (fun _ => ?_)
  refine wp_go (f' := (12, [.ref 0, .int (nI 1), .int (nI v)], [.int (nI v), .ref 1], MW A B F sw, 0, 0)) 3 rfl ?_
  refine wp_call rfl rfl rfl (ev_up (ev_gHas hC (nI v)) (by omega)) ?_
  refine wp_eq (f' := (15, [.ref 0, .int (nI 1), .int (nI v)], [.int (bI (isV (nI v) n))], MW A B F sw, 0, 0)) rfl ?_
  refine wp_go (f' := ((if ¬ (bI (isV (nI v) n)) = 0 then 21 else 18), [.ref 0, .int (nI 1), .int (nI v)], [], MW A B F sw, 0, 0)) 1 rfl ?_
  refine wp_ite (fun _ => ?_) (fun h9 => absurd (by rw [isV_t hn hv]; decide) h9)
  refine wp_go (f' := (26, [.ref 0, .int (nI 1), .int (nI v)], [.int (nI 1), .ref 7], MW A B F sw, 0, 0)) 3 rfl ?_
  refine wp_call rfl rfl rfl (ev_up hev (by omega)) ?_
  refine wp_eq (f' := (29, [.ref 0, .int (nI 1), .int (nI v)], [], MW A2 B F2 sw, 0, 0)) rfl ?_
  refine wp_go (f' := (35, [.ref 0, .int (nI 1), .int (nI v)], [.int (nI v), .int (nI 1), .ref 7], MW A2 B F2 sw, 0, 0)) 4 rfl ?_
  refine wp_call rfl rfl rfl (ev_up (ev_seenF1 hC9 hSP.2.2.2.1 hk0 hrow hrn hrv hne) (by omega)) ?_
  refine wp_eq (f' := (38, [.ref 0, .int (nI 1), .int (nI v)], [.int (nI (pastN nb (setR r k0) v))], MW A2 B F2 sw, 0, 0)) rfl ?_
  exact wp_iret rfl
theorem settle_2 (hC : CI A F n nb) (hZ : CZ A) (hco : F 3 = F 2 → RI A n nb) {ed : Nat} (hE : F 1 = nI ed) (hQ : CEd n nb ed) (hO : OI A F n nb ed) : ∃ (A2 : Nat → Nat → Int32) (F2 : Nat → Int32), mv_Ev xs Ls 17 32 [.ref 7, .int (nI 2)] (MW A B F sw) (none, MW A2 B F2 sw, 0, 0) ∧ SP A A2 F F2 n nb ed 2 := by
  have hn := hC.1
  have hp := pow10 hn
  have hp1 : 1 ≤ 2 ^ n := Nat.one_le_two_pow
  have hal := all_lt hn
  obtain ⟨r4, r5, r6, hev, hR, hZ2⟩ := ev_rows_any (xs := xs) (Ls := Ls) (B := B) (sw := sw) hC hZ hco
  obtain ⟨st, hS, hst, hkd, hH, hW⟩ := hO
  have hC1 : CI (upA (upA (upA A 4 r4) 5 r5) 6 r6) (upF F 3 (F 2)) n nb := hC
  have hkA : ∀ k, k < 6 → KD A n nb ed k → KD (upA (upA (upA A 4 r4) 5 r5) 6 r6) n nb ed k := fun k hk h => KD_congr (A := A) (by rw [upA_ne (by omega), upA_ne (by omega), upA_ne (by omega)]) rfl h
  by_cases h5 : F 5 = F 2
  · cases hb : st.testBit 2 with
    | true =>
      refine ⟨(upA (upA (upA A 4 r4) 5 r5) 6 r6), (upF F 3 (F 2)), ?_, ?_⟩
      · skip
        refine ev_of_wp rfl rfl rfl ?_
        refine wp_go (f' := (4, [.ref 7, .int (nI 2)], [.ref 1], MW A B F sw, 0, 0)) 2 rfl ?_
        refine wp_call rfl rfl rfl (ev_up hev (by omega)) ?_
        refine wp_eq (f' := (7, [.ref 7, .int (nI 2)], [], MW (upA (upA (upA A 4 r4) 5 r5) 6 r6) B (upF F 3 (F 2)) sw, 0, 0)) rfl ?_
        refine wp_go (f' := ((if (F 5) = (F 2) then 37 else 21), [.ref 7, .int (nI 2)], [], MW (upA (upA (upA A 4 r4) 5 r5) 6 r6) B (upF F 3 (F 2)) sw, 0, 0)) 6 rfl ?_
        refine wp_ite (fun _ => ?_) (fun h9 => absurd h5 h9)
        refine wp_go (f' := (41, [.ref 7, .int (nI 2)], [.int (F 4)], MW (upA (upA (upA A 4 r4) 5 r5) 6 r6) B (upF F 3 (F 2)) sw, 0, 0)) 2 rfl ?_
        rw [hS]
        refine wp_go (f' := (45, [.ref 7, .int (nI 2)], [.int (((nI st) >>> ((nI 2) &&& 31)) &&& (nI 1))], MW (upA (upA (upA A 4 r4) 5 r5) 6 r6) B (upF F 3 (F 2)) sw, 0, 0)) 4 rfl ?_
        rw [bx_bit (by omega) (by omega)]
        refine wp_go (f' := ((if (bI (st.testBit 2)) = 0 then 49 else 48), [.ref 7, .int (nI 2)], [], MW (upA (upA (upA A 4 r4) 5 r5) 6 r6) B (upF F 3 (F 2)) sw, 0, 0)) 1 rfl ?_
        refine wp_ite (fun h9 => absurd h9 (by rw [hb]; decide)) (fun _ => ?_)
        exact wp_vret rfl
      · refine ⟨fun c hc => by rw [upA_ne (by omega), upA_ne (by omega), upA_ne (by omega)], fun c h3 h4 h5 => upF_ne h3, rfl, hR, hZ2, ⟨st, hS, hst, fun h k hk hbk => hkA k hk (hkd h5 k hk hbk), hH, hW⟩, hkA 2 (by omega) (hkd h5 2 (by omega) hb), h5⟩
    | false =>
      obtain ⟨A2, hWp, hF, hK, hR2, hZ3, hH2, hW2⟩ := lay_2 (xs := xs) (Ls := Ls) (B := B) (sw := sw) (A := (upA (upA (upA A 4 r4) 5 r5) 6 r6)) (F := (upF F 3 (F 2))) hC1 hR hZ2 hE hQ hH hW (st := st) hS hst 
      refine ⟨A2, upF (upF F 3 (F 2)) 4 (nI (st ||| 4)), ?_, ?_⟩
      · skip
        refine ev_of_wp rfl rfl rfl ?_
        refine wp_go (f' := (4, [.ref 7, .int (nI 2)], [.ref 1], MW A B F sw, 0, 0)) 2 rfl ?_
        refine wp_call rfl rfl rfl (ev_up hev (by omega)) ?_
        refine wp_eq (f' := (7, [.ref 7, .int (nI 2)], [], MW (upA (upA (upA A 4 r4) 5 r5) 6 r6) B (upF F 3 (F 2)) sw, 0, 0)) rfl ?_
        refine wp_go (f' := ((if (F 5) = (F 2) then 37 else 21), [.ref 7, .int (nI 2)], [], MW (upA (upA (upA A 4 r4) 5 r5) 6 r6) B (upF F 3 (F 2)) sw, 0, 0)) 6 rfl ?_
        refine wp_ite (fun _ => ?_) (fun h9 => absurd h5 h9)
        refine wp_go (f' := (41, [.ref 7, .int (nI 2)], [.int (F 4)], MW (upA (upA (upA A 4 r4) 5 r5) 6 r6) B (upF F 3 (F 2)) sw, 0, 0)) 2 rfl ?_
        rw [hS]
        refine wp_go (f' := (45, [.ref 7, .int (nI 2)], [.int (((nI st) >>> ((nI 2) &&& 31)) &&& (nI 1))], MW (upA (upA (upA A 4 r4) 5 r5) 6 r6) B (upF F 3 (F 2)) sw, 0, 0)) 4 rfl ?_
        rw [bx_bit (by omega) (by omega)]
        refine wp_go (f' := ((if (bI (st.testBit 2)) = 0 then 49 else 48), [.ref 7, .int (nI 2)], [], MW (upA (upA (upA A 4 r4) 5 r5) 6 r6) B (upF F 3 (F 2)) sw, 0, 0)) 1 rfl ?_
        refine wp_ite (fun _ => ?_) (fun h9 => absurd (bI_f hb) h9)
        exact hWp
      · refine ⟨fun c hc => ?_, fun c h3 h4 h5 => ?_, rfl, hR2, hZ3, ⟨st ||| 4, rfl, or_64 hst (show 2 < 6 by omega), fun h k hk hbk => ?_, hH2, hW2⟩, hK, h5⟩
        · rw [hF.1 c (by omega), upA_ne (by omega), upA_ne (by omega), upA_ne (by omega)]
        · rw [upF_ne h4, upF_ne h3]
        · by_cases e : k = 2
          · rw [e]; exact hK
          · have h6 : (st ||| 2 ^ 2).testBit k = true := hbk
            exact KD_congr (hF.2 k hk e).1 (hF.2 k hk e).2 (hkA k hk (hkd h5 k hk (bit_or2 h6 e)))
  · skip
    obtain ⟨A2, hWp, hF, hK, hR2, hZ3, hH2, hW2⟩ := lay_2 (xs := xs) (Ls := Ls) (B := B) (sw := sw) (A := (upA (upA (upA A 4 r4) 5 r5) 6 r6)) (F := (upF (upF (upF F 3 (F 2)) 5 (F 2)) 4 (nI 0))) hC1 hR hZ2 hE hQ hH hW (st := 0) rfl (by omega) 
    refine ⟨A2, upF (upF (upF (upF F 3 (F 2)) 5 (F 2)) 4 (nI 0)) 4 (nI (0 ||| 4)), ?_, ?_⟩
    · skip
      refine ev_of_wp rfl rfl rfl ?_
      refine wp_go (f' := (4, [.ref 7, .int (nI 2)], [.ref 1], MW A B F sw, 0, 0)) 2 rfl ?_
      refine wp_call rfl rfl rfl (ev_up hev (by omega)) ?_
      refine wp_eq (f' := (7, [.ref 7, .int (nI 2)], [], MW (upA (upA (upA A 4 r4) 5 r5) 6 r6) B (upF F 3 (F 2)) sw, 0, 0)) rfl ?_
      refine wp_go (f' := ((if (F 5) = (F 2) then 37 else 21), [.ref 7, .int (nI 2)], [], MW (upA (upA (upA A 4 r4) 5 r5) 6 r6) B (upF F 3 (F 2)) sw, 0, 0)) 6 rfl ?_
      refine wp_ite (fun h9 => absurd h9 h5) (fun _ => ?_)
      refine wp_go (f' := (45, [.ref 7, .int (nI 2)], [.int (((nI 0) >>> ((nI 2) &&& 31)) &&& (nI 1))], MW (upA (upA (upA A 4 r4) 5 r5) 6 r6) B (upF (upF (upF F 3 (F 2)) 5 (F 2)) 4 (nI 0)) sw, 0, 0)) 14 rfl ?_
      rw [(by decide : (nI 0 >>> (nI 2 &&& 31)) &&& nI 1 = nI 0)]
      refine wp_go (f' := ((if (nI 0) = 0 then 49 else 48), [.ref 7, .int (nI 2)], [], MW (upA (upA (upA A 4 r4) 5 r5) 6 r6) B (upF (upF (upF F 3 (F 2)) 5 (F 2)) 4 (nI 0)) sw, 0, 0)) 1 rfl ?_
      refine wp_ite (fun _ => ?_) (fun h9 => absurd rfl h9)
      exact hWp
    · refine ⟨fun c hc => ?_, fun c h3 h4 h5 => ?_, rfl, hR2, hZ3, ⟨0 ||| 4, rfl, by decide, fun h k hk hbk => ?_, hH2, hW2⟩, hK, rfl⟩
      · rw [hF.1 c (by omega), upA_ne (by omega), upA_ne (by omega), upA_ne (by omega)]
      · rw [upF_ne h4, upF_ne h4, upF_ne h5, upF_ne h3]
      · by_cases e : k = 2
        · rw [e]; exact hK
        · have h6 : (0 ||| 2 ^ 2).testBit k = true := hbk
          exact absurd (bit_or2 h6 e) (by simp)
theorem ev_seenF2 (hC : CI A F n nb) (hR : RI A n nb) {r : Nat → Nat} {k0 v : Nat} (hk0 : k0 < n) (hrow : ∀ j, j < n → A 11 j = nI (r j)) (hrn : ∀ j, j < n → r j < n) (hv : r k0 = v) (hne : ∀ j, j < k0 → r j ≠ v) : mv_Ev xs Ls 3 49 [.ref 7, .int (nI 2), .int (nI v)] (MW A B F sw) (some (.int (nI (pastN nb (setR r k0) v))), MW A B F sw, 0, 0) := by
  refine ev_of_wp rfl rfl rfl ?_
  have hn := hC.1
  have hp := pow10 hn
  have hp1 : 1 ≤ 2 ^ n := Nat.one_le_two_pow
  have hal := all_lt hn
  refine wp_go (f' := (5, [.ref 7, .int (nI 2), .int (nI v), .int (nI 0), .int (nI 0)], [], MW A B F sw, 0, 0)) 4 rfl ?_
  refine for_ind (P := fun (k s : Nat) => s < 2 ^ n → mv_Wp xs Ls 2 4 false (some .int) mv_c49 (5, [.ref 7, .int (nI 2), .int (nI v), .int (nI s), .int (nI k)], [], MW A B F sw, 0, 0) (some (.int (nI (pastN nb (setR r k0) v))), MW A B F sw, 0, 0)) (f := fun j s => s ||| 2 ^ r j) (n := k0) ?_ k0 0 (Nat.le_refl _) ?_ hp1
  · intro k s hk ih hs
    have hrk := hrn k (by omega)
    have hvn : v < n := hv ▸ hrn k0 hk0
    refine wp_go (f' := (14, [.ref 7, .int (nI 2), .int (nI v), .int (nI s), .int (nI k)], [.int (F 0), .int (nI k)], MW A B F sw, 0, 0)) 4 rfl ?_
    rw [hC.2.1]
    refine wp_go (f' := ((if (nI n) ≤ (nI k) then 50 else 17), [.ref 7, .int (nI 2), .int (nI v), .int (nI s), .int (nI k)], [], MW A B F sw, 0, 0)) 1 rfl ?_
    refine wp_ite (fun h9 => absurd h9 (nI_ge (by omega) (by omega))) (fun _ => ?_)
    refine wp_go (f' := (22, [.ref 7, .int (nI 2), .int (nI v), .int (nI s), .int (nI k)], [.int (nI 2), .ref 8], MW A B F sw, 0, 0)) 3 rfl ?_
    refine wp_aald rfl rfl (by decide) (by decide) ?_
    refine wp_eq (f' := (23, [.ref 7, .int (nI 2), .int (nI v), .int (nI s), .int (nI k)], [.ref 11], MW A B F sw, 0, 0)) rfl ?_
    refine wp_go (f' := (25, [.ref 7, .int (nI 2), .int (nI v), .int (nI s), .int (nI k)], [.int (nI k), .ref 11], MW A B F sw, 0, 0)) 1 rfl ?_
    refine wp_iald rfl rfl (by omega) (by decide) ?_
    rw [hrow k (by omega)]
    refine wp_go (f' := ((if (nI (r k)) = (nI v) then 50 else 30), [.ref 7, .int (nI 2), .int (nI v), .int (nI s), .int (nI k)], [], MW A B F sw, 0, 0)) 2 rfl ?_
    refine wp_ite (fun h9 => absurd h9 (fun h8 => hne k hk ((nI_eq (a := r k) (b := v) (by omega) (by omega)).mp h8))) (fun _ => ?_)
    refine wp_go (f' := (37, [.ref 7, .int (nI 2), .int (nI v), .int (nI s), .int (nI k)], [.int (nI 2), .ref 8, .int (nI 1), .int (nI s)], MW A B F sw, 0, 0)) 5 rfl ?_
    refine wp_aald rfl rfl (by decide) (by decide) ?_
    refine wp_eq (f' := (38, [.ref 7, .int (nI 2), .int (nI v), .int (nI s), .int (nI k)], [.ref 11, .int (nI 1), .int (nI s)], MW A B F sw, 0, 0)) rfl ?_
    refine wp_go (f' := (40, [.ref 7, .int (nI 2), .int (nI v), .int (nI s), .int (nI k)], [.int (nI k), .ref 11, .int (nI 1), .int (nI s)], MW A B F sw, 0, 0)) 1 rfl ?_
    refine wp_iald rfl rfl (by omega) (by decide) ?_
    rw [hrow k (by omega)]
    refine wp_go (f' := (42, [.ref 7, .int (nI 2), .int (nI v), .int (nI s), .int (nI k)], [.int ((nI 1) <<< ((nI (r k)) &&& 31)), .int (nI s)], MW A B F sw, 0, 0)) 1 rfl ?_
    rw [bx_one (by omega)]
    refine wp_go (f' := (43, [.ref 7, .int (nI 2), .int (nI v), .int (nI s), .int (nI k)], [.int ((nI s) ||| (nI (2 ^ (r k))))], MW A B F sw, 0, 0)) 1 rfl ?_
    rw [bx_or]
    refine wp_go (f' := (47, [.ref 7, .int (nI 2), .int (nI v), .int (nI (s ||| (2 ^ (r k)))), .int ((nI k) + 1)], [], MW A B F sw, 0, 0)) 2 rfl ?_
    rw [nI_1]
    refine wp_go (f' := (5, [.ref 7, .int (nI 2), .int (nI v), .int (nI (s ||| (2 ^ (r k)))), .int (nI (k + 1))], [], MW A B F sw, 0, 0)) 1 rfl ?_
    exact ih (or_ltn hs hrk)
  · intro hs
    have hsl := setR_lt (r := r) (n := n) (k := k0) (fun j hj => hrn j (by omega))
    refine wp_go (f' := (14, [.ref 7, .int (nI 2), .int (nI v), .int (nI (setR r k0)), .int (nI k0)], [.int (F 0), .int (nI k0)], MW A B F sw, 0, 0)) 4 rfl ?_
    rw [hC.2.1]
    refine wp_go (f' := ((if (nI n) ≤ (nI k0) then 50 else 17), [.ref 7, .int (nI 2), .int (nI v), .int (nI (setR r k0)), .int (nI k0)], [], MW A B F sw, 0, 0)) 1 rfl ?_
    refine wp_ite (fun h9 => absurd h9 (nI_ge (by omega) (by omega))) (fun _ => ?_)
    refine wp_go (f' := (22, [.ref 7, .int (nI 2), .int (nI v), .int (nI (setR r k0)), .int (nI k0)], [.int (nI 2), .ref 8], MW A B F sw, 0, 0)) 3 rfl ?_
    refine wp_aald rfl rfl (by decide) (by decide) ?_
    refine wp_eq (f' := (23, [.ref 7, .int (nI 2), .int (nI v), .int (nI (setR r k0)), .int (nI k0)], [.ref 11], MW A B F sw, 0, 0)) rfl ?_
    refine wp_go (f' := (25, [.ref 7, .int (nI 2), .int (nI v), .int (nI (setR r k0)), .int (nI k0)], [.int (nI k0), .ref 11], MW A B F sw, 0, 0)) 1 rfl ?_
    refine wp_iald rfl rfl (by omega) (by decide) ?_
    rw [hrow k0 (by omega)]
    refine wp_go (f' := ((if (nI (r k0)) = (nI v) then 50 else 30), [.ref 7, .int (nI 2), .int (nI v), .int (nI (setR r k0)), .int (nI k0)], [], MW A B F sw, 0, 0)) 2 rfl ?_
    refine wp_ite (fun _ => ?_) (fun h9 => absurd (congrArg nI hv) h9)
    refine wp_go (f' := (56, [.ref 7, .int (nI 2), .int (nI v), .int (nI (setR r k0)), .int (nI k0)], [.int (nI v), .int (nI (setR r k0)), .ref 1], MW A B F sw, 0, 0)) 4 rfl ?_
    refine wp_call rfl rfl rfl (ev_up (ev_gSees hC hR hsl (by have h7 := hrn k0 hk0; omega)) (by decide)) ?_
    refine wp_eq (f' := (59, [.ref 7, .int (nI 2), .int (nI v), .int (nI (setR r k0)), .int (nI k0)], [.int (nI (pastN nb (setR r k0) v))], MW A B F sw, 0, 0)) rfl ?_
    exact wp_iret rfl
theorem ev_kind2 : mv_Ev xs Ls 1 31 [.int (nI 2)] (MW A B F sw) (some (.int (nI 1)), MW A B F sw, 0, 0) := by
  refine ev_of_wp rfl rfl rfl ?_
  refine wp_go (f' := ((if (nI 2) < 0 then 14 else 4), [.int (nI 2)], [], MW A B F sw, 0, 0)) 2 rfl ?_
  refine wp_ite (fun h9 => absurd h9 (by decide)) (fun _ => ?_)
  refine wp_go (f' := ((if (nI 6) ≤ (nI 2) then 14 else 10), [.int (nI 2)], [], MW A B F sw, 0, 0)) 3 rfl ?_
  refine wp_ite (fun h9 => absurd h9 (by decide)) (fun _ => ?_)
  refine wp_go (f' := (15, [.int (nI 2)], [.int (nI 1)], MW A B F sw, 0, 0)) 2 rfl ?_
  exact wp_zret rfl (by first | exact Or.inl rfl | exact Or.inr rfl)
theorem ev_bWidth2 (hC : CI A F n nb) (hZ : CZ A) (hco : F 3 = F 2 → RI A n nb) {ed : Nat} (hE : F 1 = nI ed) (hQ : CEd n nb ed) (hO : OI A F n nb ed) : ∃ (A2 : Nat → Nat → Int32) (F2 : Nat → Int32), mv_Ev xs Ls 18 30 [.ref 0, .int (nI 2)] (MW A B F sw) (some (.int (A2 15 2)), MW A2 B F2 sw, 0, 0) ∧ SP A A2 F F2 n nb ed 2 := by
  have hn := hC.1
  have hp := pow10 hn
  have hp1 : 1 ≤ 2 ^ n := Nat.one_le_two_pow
  have hal := all_lt hn
  obtain ⟨A2, F2, hev, hSP⟩ := settle_2 (xs := xs) (Ls := Ls) (B := B) (sw := sw) hC hZ hco hE hQ hO 
  refine ⟨A2, F2, ?_, hSP⟩
  refine ev_of_wp rfl rfl rfl ?_
  refine wp_go (f' := (1, [.ref 0, .int (nI 2)], [.int (nI 2)], MW A B F sw, 0, 0)) 1 rfl ?_
  refine wp_call rfl rfl rfl (ev_up ev_kind2 (by omega)) ?_
  refine wp_eq (f' := (4, [.ref 0, .int (nI 2)], [.int (nI 1)], MW A B F sw, 0, 0)) rfl ?_
  refine wp_go (f' := ((if ¬ (nI 1) = 0 then 10 else 7), [.ref 0, .int (nI 2)], [], MW A B F sw, 0, 0)) 1 rfl ?_
  refine wp_ite (fun _ => ?_) (fun h9 => absurd (by decide) h9)
  refine wp_go (f' := (15, [.ref 0, .int (nI 2)], [.int (nI 2), .ref 7], MW A B F sw, 0, 0)) 3 rfl ?_
  refine wp_call rfl rfl rfl (ev_up hev (by omega)) ?_
  refine wp_eq (f' := (18, [.ref 0, .int (nI 2)], [], MW A2 B F2 sw, 0, 0)) rfl ?_
  refine wp_go (f' := (26, [.ref 0, .int (nI 2)], [.int (nI 2), .ref 15], MW A2 B F2 sw, 0, 0)) 4 rfl ?_
  refine wp_iald rfl rfl (by omega) (by decide) ?_
  exact wp_iret rfl
theorem ev_bOrder2 (hC : CI A F n nb) (hZ : CZ A) (hco : F 3 = F 2 → RI A n nb) {ed : Nat} (hE : F 1 = nI ed) (hQ : CEd n nb ed) (hO : OI A F n nb ed) {k : Nat} (hk : k < n) : ∃ (A2 : Nat → Nat → Int32) (F2 : Nat → Int32), mv_Ev xs Ls 18 47 [.ref 0, .int (nI 2), .int (nI k)] (MW A B F sw) (some (.int (A2 11 k)), MW A2 B F2 sw, 0, 0) ∧ SP A A2 F F2 n nb ed 2 := by
  have hn := hC.1
  have hp := pow10 hn
  have hp1 : 1 ≤ 2 ^ n := Nat.one_le_two_pow
  have hal := all_lt hn
  obtain ⟨A2, F2, hev, hSP⟩ := settle_2 (xs := xs) (Ls := Ls) (B := B) (sw := sw) hC hZ hco hE hQ hO 
  refine ⟨A2, F2, ?_, hSP⟩
  refine ev_of_wp rfl rfl rfl ?_
  refine wp_go (f' := (1, [.ref 0, .int (nI 2), .int (nI k)], [.int (nI 2)], MW A B F sw, 0, 0)) 1 rfl ?_
  refine wp_call rfl rfl rfl (ev_up ev_kind2 (by omega)) ?_
  refine wp_eq (f' := (4, [.ref 0, .int (nI 2), .int (nI k)], [.int (nI 1)], MW A B F sw, 0, 0)) rfl ?_
  refine wp_go (f' := ((if ¬ (nI 1) = 0 then 10 else 7), [.ref 0, .int (nI 2), .int (nI k)], [], MW A B F sw, 0, 0)) 1 rfl ?_
  refine wp_ite (fun _ => ?_) (fun h9 => absurd (by decide) h9)
  refine wp_go (f' := ((if (nI k) < 0 then 25 else 14), [.ref 0, .int (nI 2), .int (nI k)], [], MW A B F sw, 0, 0)) 2 rfl ?_
  refine wp_ite (fun h9 => absurd h9 (nI_pos (n := k) (by omega))) (fun _ => ?_)
  refine wp_go (f' := (22, [.ref 0, .int (nI 2), .int (nI k)], [.int (F 0), .int (nI k)], MW A B F sw, 0, 0)) 4 rfl ?_
  rw [hC.2.1]
  refine wp_go (f' := ((if (nI k) < (nI n) then 27 else 25), [.ref 0, .int (nI 2), .int (nI k)], [], MW A B F sw, 0, 0)) 1 rfl ?_
  refine wp_ite (fun _ => ?_) (fun h9 => absurd (nI_lt hk (by omega)) h9)
  refine wp_go (f' := (32, [.ref 0, .int (nI 2), .int (nI k)], [.int (nI 2), .ref 7], MW A B F sw, 0, 0)) 3 rfl ?_
  refine wp_call rfl rfl rfl (ev_up hev (by omega)) ?_
  refine wp_eq (f' := (35, [.ref 0, .int (nI 2), .int (nI k)], [], MW A2 B F2 sw, 0, 0)) rfl ?_
  refine wp_go (f' := (43, [.ref 0, .int (nI 2), .int (nI k)], [.int (nI 2), .ref 8], MW A2 B F2 sw, 0, 0)) 4 rfl ?_
  refine wp_aald rfl rfl (by decide) (by decide) ?_
  refine wp_eq (f' := (44, [.ref 0, .int (nI 2), .int (nI k)], [.ref 11], MW A2 B F2 sw, 0, 0)) rfl ?_
  refine wp_go (f' := (45, [.ref 0, .int (nI 2), .int (nI k)], [.int (nI k), .ref 11], MW A2 B F2 sw, 0, 0)) 1 rfl ?_
  refine wp_iald rfl rfl (by omega) (by decide) ?_
  exact wp_iret rfl
theorem ev_bSeen2 (hC : CI A F n nb) (hZ : CZ A) (hco : F 3 = F 2 → RI A n nb) {ed : Nat} (hE : F 1 = nI ed) (hQ : CEd n nb ed) (hO : OI A F n nb ed) {v : Nat} (hv : v < n) : ∃ (A2 : Nat → Nat → Int32) (F2 : Nat → Int32), SP A A2 F F2 n nb ed 2 ∧ ∀ (r : Nat → Nat) (k0 : Nat), k0 < n → (∀ j, j < n → A2 11 j = nI (r j)) → (∀ j, j < n → r j < n) → r k0 = v → (∀ j, j < k0 → r j ≠ v) → mv_Ev xs Ls 18 48 [.ref 0, .int (nI 2), .int (nI v)] (MW A B F sw) (some (.int (nI (pastN nb (setR r k0) v))), MW A2 B F2 sw, 0, 0) := by
  have hn := hC.1
  have hp := pow10 hn
  have hp1 : 1 ≤ 2 ^ n := Nat.one_le_two_pow
  have hal := all_lt hn
  obtain ⟨A2, F2, hev, hSP⟩ := settle_2 (xs := xs) (Ls := Ls) (B := B) (sw := sw) hC hZ hco hE hQ hO 
  refine ⟨A2, F2, hSP, fun r k0 hk0 hrow hrn hrv hne => ?_⟩
  have hC9 : CI A2 F2 n nb := ⟨hn, (hSP.2.1 0 (by decide) (by decide) (by decide)).trans hC.2.1, fun v hv => by rw [hSP.1 2 (by omega)]; exact hC.2.2.1 v hv, hC.2.2.2⟩
  refine ev_of_wp rfl rfl rfl ?_
  refine wp_go (f' := (1, [.ref 0, .int (nI 2), .int (nI v)], [.int (nI 2)], MW A B F sw, 0, 0)) 1 rfl ?_
  refine wp_call rfl rfl rfl (ev_up ev_kind2 (by omega)) ?_
  refine wp_eq (f' := (4, [.ref 0, .int (nI 2), .int (nI v)], [.int (nI 1)], MW A B F sw, 0, 0)) rfl ?_
  refine wp_go (f' := ((if (nI 1) = 0 then 18 else 7), [.ref 0, .int (nI 2), .int (nI v)], [], MW A B F sw, 0, 0)) 1 rfl ?_
  refine wp_ite (fun h9 => absurd h9 (by decide)) (fun _ => ?_)
  refine wp_go (f' := (12, [.ref 0, .int (nI 2), .int (nI v)], [.int (nI v), .ref 1], MW A B F sw, 0, 0)) 3 rfl ?_
  refine wp_call rfl rfl rfl (ev_up (ev_gHas hC (nI v)) (by omega)) ?_
  refine wp_eq (f' := (15, [.ref 0, .int (nI 2), .int (nI v)], [.int (bI (isV (nI v) n))], MW A B F sw, 0, 0)) rfl ?_
  refine wp_go (f' := ((if ¬ (bI (isV (nI v) n)) = 0 then 21 else 18), [.ref 0, .int (nI 2), .int (nI v)], [], MW A B F sw, 0, 0)) 1 rfl ?_
  refine wp_ite (fun _ => ?_) (fun h9 => absurd (by rw [isV_t hn hv]; decide) h9)
  refine wp_go (f' := (26, [.ref 0, .int (nI 2), .int (nI v)], [.int (nI 2), .ref 7], MW A B F sw, 0, 0)) 3 rfl ?_
  refine wp_call rfl rfl rfl (ev_up hev (by omega)) ?_
  refine wp_eq (f' := (29, [.ref 0, .int (nI 2), .int (nI v)], [], MW A2 B F2 sw, 0, 0)) rfl ?_
  refine wp_go (f' := (35, [.ref 0, .int (nI 2), .int (nI v)], [.int (nI v), .int (nI 2), .ref 7], MW A2 B F2 sw, 0, 0)) 4 rfl ?_
  refine wp_call rfl rfl rfl (ev_up (ev_seenF2 hC9 hSP.2.2.2.1 hk0 hrow hrn hrv hne) (by omega)) ?_
  refine wp_eq (f' := (38, [.ref 0, .int (nI 2), .int (nI v)], [.int (nI (pastN nb (setR r k0) v))], MW A2 B F2 sw, 0, 0)) rfl ?_
  exact wp_iret rfl
theorem settle_3 (hC : CI A F n nb) (hZ : CZ A) (hco : F 3 = F 2 → RI A n nb) {ed : Nat} (hE : F 1 = nI ed) (hQ : CEd n nb ed) (hO : OI A F n nb ed) (hq : CQ n nb ed 3) : ∃ (A2 : Nat → Nat → Int32) (F2 : Nat → Int32), mv_Ev xs Ls 17 32 [.ref 7, .int (nI 3)] (MW A B F sw) (none, MW A2 B F2 sw, 0, 0) ∧ SP A A2 F F2 n nb ed 3 := by
  have hn := hC.1
  have hp := pow10 hn
  have hp1 : 1 ≤ 2 ^ n := Nat.one_le_two_pow
  have hal := all_lt hn
  obtain ⟨r4, r5, r6, hev, hR, hZ2⟩ := ev_rows_any (xs := xs) (Ls := Ls) (B := B) (sw := sw) hC hZ hco
  obtain ⟨st, hS, hst, hkd, hH, hW⟩ := hO
  have hC1 : CI (upA (upA (upA A 4 r4) 5 r5) 6 r6) (upF F 3 (F 2)) n nb := hC
  have hkA : ∀ k, k < 6 → KD A n nb ed k → KD (upA (upA (upA A 4 r4) 5 r5) 6 r6) n nb ed k := fun k hk h => KD_congr (A := A) (by rw [upA_ne (by omega), upA_ne (by omega), upA_ne (by omega)]) rfl h
  by_cases h5 : F 5 = F 2
  · cases hb : st.testBit 3 with
    | true =>
      refine ⟨(upA (upA (upA A 4 r4) 5 r5) 6 r6), (upF F 3 (F 2)), ?_, ?_⟩
      · skip
        refine ev_of_wp rfl rfl rfl ?_
        refine wp_go (f' := (4, [.ref 7, .int (nI 3)], [.ref 1], MW A B F sw, 0, 0)) 2 rfl ?_
        refine wp_call rfl rfl rfl (ev_up hev (by omega)) ?_
        refine wp_eq (f' := (7, [.ref 7, .int (nI 3)], [], MW (upA (upA (upA A 4 r4) 5 r5) 6 r6) B (upF F 3 (F 2)) sw, 0, 0)) rfl ?_
        refine wp_go (f' := ((if (F 5) = (F 2) then 37 else 21), [.ref 7, .int (nI 3)], [], MW (upA (upA (upA A 4 r4) 5 r5) 6 r6) B (upF F 3 (F 2)) sw, 0, 0)) 6 rfl ?_
        refine wp_ite (fun _ => ?_) (fun h9 => absurd h5 h9)
        refine wp_go (f' := (41, [.ref 7, .int (nI 3)], [.int (F 4)], MW (upA (upA (upA A 4 r4) 5 r5) 6 r6) B (upF F 3 (F 2)) sw, 0, 0)) 2 rfl ?_
        rw [hS]
        refine wp_go (f' := (45, [.ref 7, .int (nI 3)], [.int (((nI st) >>> ((nI 3) &&& 31)) &&& (nI 1))], MW (upA (upA (upA A 4 r4) 5 r5) 6 r6) B (upF F 3 (F 2)) sw, 0, 0)) 4 rfl ?_
        rw [bx_bit (by omega) (by omega)]
        refine wp_go (f' := ((if (bI (st.testBit 3)) = 0 then 49 else 48), [.ref 7, .int (nI 3)], [], MW (upA (upA (upA A 4 r4) 5 r5) 6 r6) B (upF F 3 (F 2)) sw, 0, 0)) 1 rfl ?_
        refine wp_ite (fun h9 => absurd h9 (by rw [hb]; decide)) (fun _ => ?_)
        exact wp_vret rfl
      · refine ⟨fun c hc => by rw [upA_ne (by omega), upA_ne (by omega), upA_ne (by omega)], fun c h3 h4 h5 => upF_ne h3, rfl, hR, hZ2, ⟨st, hS, hst, fun h k hk hbk => hkA k hk (hkd h5 k hk hbk), hH, hW⟩, hkA 3 (by omega) (hkd h5 3 (by omega) hb), h5⟩
    | false =>
      obtain ⟨A2, hWp, hF, hK, hR2, hZ3, hH2, hW2⟩ := lay_3 (xs := xs) (Ls := Ls) (B := B) (sw := sw) (A := (upA (upA (upA A 4 r4) 5 r5) 6 r6)) (F := (upF F 3 (F 2))) hC1 hR hZ2 hE hQ hH hW (st := st) hS hst hq
      refine ⟨A2, upF (upF F 3 (F 2)) 4 (nI (st ||| 8)), ?_, ?_⟩
      · skip
        refine ev_of_wp rfl rfl rfl ?_
        refine wp_go (f' := (4, [.ref 7, .int (nI 3)], [.ref 1], MW A B F sw, 0, 0)) 2 rfl ?_
        refine wp_call rfl rfl rfl (ev_up hev (by omega)) ?_
        refine wp_eq (f' := (7, [.ref 7, .int (nI 3)], [], MW (upA (upA (upA A 4 r4) 5 r5) 6 r6) B (upF F 3 (F 2)) sw, 0, 0)) rfl ?_
        refine wp_go (f' := ((if (F 5) = (F 2) then 37 else 21), [.ref 7, .int (nI 3)], [], MW (upA (upA (upA A 4 r4) 5 r5) 6 r6) B (upF F 3 (F 2)) sw, 0, 0)) 6 rfl ?_
        refine wp_ite (fun _ => ?_) (fun h9 => absurd h5 h9)
        refine wp_go (f' := (41, [.ref 7, .int (nI 3)], [.int (F 4)], MW (upA (upA (upA A 4 r4) 5 r5) 6 r6) B (upF F 3 (F 2)) sw, 0, 0)) 2 rfl ?_
        rw [hS]
        refine wp_go (f' := (45, [.ref 7, .int (nI 3)], [.int (((nI st) >>> ((nI 3) &&& 31)) &&& (nI 1))], MW (upA (upA (upA A 4 r4) 5 r5) 6 r6) B (upF F 3 (F 2)) sw, 0, 0)) 4 rfl ?_
        rw [bx_bit (by omega) (by omega)]
        refine wp_go (f' := ((if (bI (st.testBit 3)) = 0 then 49 else 48), [.ref 7, .int (nI 3)], [], MW (upA (upA (upA A 4 r4) 5 r5) 6 r6) B (upF F 3 (F 2)) sw, 0, 0)) 1 rfl ?_
        refine wp_ite (fun _ => ?_) (fun h9 => absurd (bI_f hb) h9)
        exact hWp
      · refine ⟨fun c hc => ?_, fun c h3 h4 h5 => ?_, rfl, hR2, hZ3, ⟨st ||| 8, rfl, or_64 hst (show 3 < 6 by omega), fun h k hk hbk => ?_, hH2, hW2⟩, hK, h5⟩
        · rw [hF.1 c (by omega), upA_ne (by omega), upA_ne (by omega), upA_ne (by omega)]
        · rw [upF_ne h4, upF_ne h3]
        · by_cases e : k = 3
          · rw [e]; exact hK
          · have h6 : (st ||| 2 ^ 3).testBit k = true := hbk
            exact KD_congr (hF.2 k hk e).1 (hF.2 k hk e).2 (hkA k hk (hkd h5 k hk (bit_or2 h6 e)))
  · skip
    obtain ⟨A2, hWp, hF, hK, hR2, hZ3, hH2, hW2⟩ := lay_3 (xs := xs) (Ls := Ls) (B := B) (sw := sw) (A := (upA (upA (upA A 4 r4) 5 r5) 6 r6)) (F := (upF (upF (upF F 3 (F 2)) 5 (F 2)) 4 (nI 0))) hC1 hR hZ2 hE hQ hH hW (st := 0) rfl (by omega) hq
    refine ⟨A2, upF (upF (upF (upF F 3 (F 2)) 5 (F 2)) 4 (nI 0)) 4 (nI (0 ||| 8)), ?_, ?_⟩
    · skip
      refine ev_of_wp rfl rfl rfl ?_
      refine wp_go (f' := (4, [.ref 7, .int (nI 3)], [.ref 1], MW A B F sw, 0, 0)) 2 rfl ?_
      refine wp_call rfl rfl rfl (ev_up hev (by omega)) ?_
      refine wp_eq (f' := (7, [.ref 7, .int (nI 3)], [], MW (upA (upA (upA A 4 r4) 5 r5) 6 r6) B (upF F 3 (F 2)) sw, 0, 0)) rfl ?_
      refine wp_go (f' := ((if (F 5) = (F 2) then 37 else 21), [.ref 7, .int (nI 3)], [], MW (upA (upA (upA A 4 r4) 5 r5) 6 r6) B (upF F 3 (F 2)) sw, 0, 0)) 6 rfl ?_
      refine wp_ite (fun h9 => absurd h9 h5) (fun _ => ?_)
      refine wp_go (f' := (45, [.ref 7, .int (nI 3)], [.int (((nI 0) >>> ((nI 3) &&& 31)) &&& (nI 1))], MW (upA (upA (upA A 4 r4) 5 r5) 6 r6) B (upF (upF (upF F 3 (F 2)) 5 (F 2)) 4 (nI 0)) sw, 0, 0)) 14 rfl ?_
      rw [(by decide : (nI 0 >>> (nI 3 &&& 31)) &&& nI 1 = nI 0)]
      refine wp_go (f' := ((if (nI 0) = 0 then 49 else 48), [.ref 7, .int (nI 3)], [], MW (upA (upA (upA A 4 r4) 5 r5) 6 r6) B (upF (upF (upF F 3 (F 2)) 5 (F 2)) 4 (nI 0)) sw, 0, 0)) 1 rfl ?_
      refine wp_ite (fun _ => ?_) (fun h9 => absurd rfl h9)
      exact hWp
    · refine ⟨fun c hc => ?_, fun c h3 h4 h5 => ?_, rfl, hR2, hZ3, ⟨0 ||| 8, rfl, by decide, fun h k hk hbk => ?_, hH2, hW2⟩, hK, rfl⟩
      · rw [hF.1 c (by omega), upA_ne (by omega), upA_ne (by omega), upA_ne (by omega)]
      · rw [upF_ne h4, upF_ne h4, upF_ne h5, upF_ne h3]
      · by_cases e : k = 3
        · rw [e]; exact hK
        · have h6 : (0 ||| 2 ^ 3).testBit k = true := hbk
          exact absurd (bit_or2 h6 e) (by simp)
theorem ev_seenF3 (hC : CI A F n nb) (hR : RI A n nb) {r : Nat → Nat} {k0 v : Nat} (hk0 : k0 < n) (hrow : ∀ j, j < n → A 12 j = nI (r j)) (hrn : ∀ j, j < n → r j < n) (hv : r k0 = v) (hne : ∀ j, j < k0 → r j ≠ v) : mv_Ev xs Ls 3 49 [.ref 7, .int (nI 3), .int (nI v)] (MW A B F sw) (some (.int (nI (pastN nb (setR r k0) v))), MW A B F sw, 0, 0) := by
  refine ev_of_wp rfl rfl rfl ?_
  have hn := hC.1
  have hp := pow10 hn
  have hp1 : 1 ≤ 2 ^ n := Nat.one_le_two_pow
  have hal := all_lt hn
  refine wp_go (f' := (5, [.ref 7, .int (nI 3), .int (nI v), .int (nI 0), .int (nI 0)], [], MW A B F sw, 0, 0)) 4 rfl ?_
  refine for_ind (P := fun (k s : Nat) => s < 2 ^ n → mv_Wp xs Ls 2 4 false (some .int) mv_c49 (5, [.ref 7, .int (nI 3), .int (nI v), .int (nI s), .int (nI k)], [], MW A B F sw, 0, 0) (some (.int (nI (pastN nb (setR r k0) v))), MW A B F sw, 0, 0)) (f := fun j s => s ||| 2 ^ r j) (n := k0) ?_ k0 0 (Nat.le_refl _) ?_ hp1
  · intro k s hk ih hs
    have hrk := hrn k (by omega)
    have hvn : v < n := hv ▸ hrn k0 hk0
    refine wp_go (f' := (14, [.ref 7, .int (nI 3), .int (nI v), .int (nI s), .int (nI k)], [.int (F 0), .int (nI k)], MW A B F sw, 0, 0)) 4 rfl ?_
    rw [hC.2.1]
    refine wp_go (f' := ((if (nI n) ≤ (nI k) then 50 else 17), [.ref 7, .int (nI 3), .int (nI v), .int (nI s), .int (nI k)], [], MW A B F sw, 0, 0)) 1 rfl ?_
    refine wp_ite (fun h9 => absurd h9 (nI_ge (by omega) (by omega))) (fun _ => ?_)
    refine wp_go (f' := (22, [.ref 7, .int (nI 3), .int (nI v), .int (nI s), .int (nI k)], [.int (nI 3), .ref 8], MW A B F sw, 0, 0)) 3 rfl ?_
    refine wp_aald rfl rfl (by decide) (by decide) ?_
    refine wp_eq (f' := (23, [.ref 7, .int (nI 3), .int (nI v), .int (nI s), .int (nI k)], [.ref 12], MW A B F sw, 0, 0)) rfl ?_
    refine wp_go (f' := (25, [.ref 7, .int (nI 3), .int (nI v), .int (nI s), .int (nI k)], [.int (nI k), .ref 12], MW A B F sw, 0, 0)) 1 rfl ?_
    refine wp_iald rfl rfl (by omega) (by decide) ?_
    rw [hrow k (by omega)]
    refine wp_go (f' := ((if (nI (r k)) = (nI v) then 50 else 30), [.ref 7, .int (nI 3), .int (nI v), .int (nI s), .int (nI k)], [], MW A B F sw, 0, 0)) 2 rfl ?_
    refine wp_ite (fun h9 => absurd h9 (fun h8 => hne k hk ((nI_eq (a := r k) (b := v) (by omega) (by omega)).mp h8))) (fun _ => ?_)
    refine wp_go (f' := (37, [.ref 7, .int (nI 3), .int (nI v), .int (nI s), .int (nI k)], [.int (nI 3), .ref 8, .int (nI 1), .int (nI s)], MW A B F sw, 0, 0)) 5 rfl ?_
    refine wp_aald rfl rfl (by decide) (by decide) ?_
    refine wp_eq (f' := (38, [.ref 7, .int (nI 3), .int (nI v), .int (nI s), .int (nI k)], [.ref 12, .int (nI 1), .int (nI s)], MW A B F sw, 0, 0)) rfl ?_
    refine wp_go (f' := (40, [.ref 7, .int (nI 3), .int (nI v), .int (nI s), .int (nI k)], [.int (nI k), .ref 12, .int (nI 1), .int (nI s)], MW A B F sw, 0, 0)) 1 rfl ?_
    refine wp_iald rfl rfl (by omega) (by decide) ?_
    rw [hrow k (by omega)]
    refine wp_go (f' := (42, [.ref 7, .int (nI 3), .int (nI v), .int (nI s), .int (nI k)], [.int ((nI 1) <<< ((nI (r k)) &&& 31)), .int (nI s)], MW A B F sw, 0, 0)) 1 rfl ?_
    rw [bx_one (by omega)]
    refine wp_go (f' := (43, [.ref 7, .int (nI 3), .int (nI v), .int (nI s), .int (nI k)], [.int ((nI s) ||| (nI (2 ^ (r k))))], MW A B F sw, 0, 0)) 1 rfl ?_
    rw [bx_or]
    refine wp_go (f' := (47, [.ref 7, .int (nI 3), .int (nI v), .int (nI (s ||| (2 ^ (r k)))), .int ((nI k) + 1)], [], MW A B F sw, 0, 0)) 2 rfl ?_
    rw [nI_1]
    refine wp_go (f' := (5, [.ref 7, .int (nI 3), .int (nI v), .int (nI (s ||| (2 ^ (r k)))), .int (nI (k + 1))], [], MW A B F sw, 0, 0)) 1 rfl ?_
    exact ih (or_ltn hs hrk)
  · intro hs
    have hsl := setR_lt (r := r) (n := n) (k := k0) (fun j hj => hrn j (by omega))
    refine wp_go (f' := (14, [.ref 7, .int (nI 3), .int (nI v), .int (nI (setR r k0)), .int (nI k0)], [.int (F 0), .int (nI k0)], MW A B F sw, 0, 0)) 4 rfl ?_
    rw [hC.2.1]
    refine wp_go (f' := ((if (nI n) ≤ (nI k0) then 50 else 17), [.ref 7, .int (nI 3), .int (nI v), .int (nI (setR r k0)), .int (nI k0)], [], MW A B F sw, 0, 0)) 1 rfl ?_
    refine wp_ite (fun h9 => absurd h9 (nI_ge (by omega) (by omega))) (fun _ => ?_)
    refine wp_go (f' := (22, [.ref 7, .int (nI 3), .int (nI v), .int (nI (setR r k0)), .int (nI k0)], [.int (nI 3), .ref 8], MW A B F sw, 0, 0)) 3 rfl ?_
    refine wp_aald rfl rfl (by decide) (by decide) ?_
    refine wp_eq (f' := (23, [.ref 7, .int (nI 3), .int (nI v), .int (nI (setR r k0)), .int (nI k0)], [.ref 12], MW A B F sw, 0, 0)) rfl ?_
    refine wp_go (f' := (25, [.ref 7, .int (nI 3), .int (nI v), .int (nI (setR r k0)), .int (nI k0)], [.int (nI k0), .ref 12], MW A B F sw, 0, 0)) 1 rfl ?_
    refine wp_iald rfl rfl (by omega) (by decide) ?_
    rw [hrow k0 (by omega)]
    refine wp_go (f' := ((if (nI (r k0)) = (nI v) then 50 else 30), [.ref 7, .int (nI 3), .int (nI v), .int (nI (setR r k0)), .int (nI k0)], [], MW A B F sw, 0, 0)) 2 rfl ?_
    refine wp_ite (fun _ => ?_) (fun h9 => absurd (congrArg nI hv) h9)
    refine wp_go (f' := (56, [.ref 7, .int (nI 3), .int (nI v), .int (nI (setR r k0)), .int (nI k0)], [.int (nI v), .int (nI (setR r k0)), .ref 1], MW A B F sw, 0, 0)) 4 rfl ?_
    refine wp_call rfl rfl rfl (ev_up (ev_gSees hC hR hsl (by have h7 := hrn k0 hk0; omega)) (by decide)) ?_
    refine wp_eq (f' := (59, [.ref 7, .int (nI 3), .int (nI v), .int (nI (setR r k0)), .int (nI k0)], [.int (nI (pastN nb (setR r k0) v))], MW A B F sw, 0, 0)) rfl ?_
    exact wp_iret rfl
theorem ev_kind3 : mv_Ev xs Ls 1 31 [.int (nI 3)] (MW A B F sw) (some (.int (nI 1)), MW A B F sw, 0, 0) := by
  refine ev_of_wp rfl rfl rfl ?_
  refine wp_go (f' := ((if (nI 3) < 0 then 14 else 4), [.int (nI 3)], [], MW A B F sw, 0, 0)) 2 rfl ?_
  refine wp_ite (fun h9 => absurd h9 (by decide)) (fun _ => ?_)
  refine wp_go (f' := ((if (nI 6) ≤ (nI 3) then 14 else 10), [.int (nI 3)], [], MW A B F sw, 0, 0)) 3 rfl ?_
  refine wp_ite (fun h9 => absurd h9 (by decide)) (fun _ => ?_)
  refine wp_go (f' := (15, [.int (nI 3)], [.int (nI 1)], MW A B F sw, 0, 0)) 2 rfl ?_
  exact wp_zret rfl (by first | exact Or.inl rfl | exact Or.inr rfl)
theorem ev_bWidth3 (hC : CI A F n nb) (hZ : CZ A) (hco : F 3 = F 2 → RI A n nb) {ed : Nat} (hE : F 1 = nI ed) (hQ : CEd n nb ed) (hO : OI A F n nb ed) (hq : CQ n nb ed 3) : ∃ (A2 : Nat → Nat → Int32) (F2 : Nat → Int32), mv_Ev xs Ls 18 30 [.ref 0, .int (nI 3)] (MW A B F sw) (some (.int (A2 15 3)), MW A2 B F2 sw, 0, 0) ∧ SP A A2 F F2 n nb ed 3 := by
  have hn := hC.1
  have hp := pow10 hn
  have hp1 : 1 ≤ 2 ^ n := Nat.one_le_two_pow
  have hal := all_lt hn
  obtain ⟨A2, F2, hev, hSP⟩ := settle_3 (xs := xs) (Ls := Ls) (B := B) (sw := sw) hC hZ hco hE hQ hO hq
  refine ⟨A2, F2, ?_, hSP⟩
  refine ev_of_wp rfl rfl rfl ?_
  refine wp_go (f' := (1, [.ref 0, .int (nI 3)], [.int (nI 3)], MW A B F sw, 0, 0)) 1 rfl ?_
  refine wp_call rfl rfl rfl (ev_up ev_kind3 (by omega)) ?_
  refine wp_eq (f' := (4, [.ref 0, .int (nI 3)], [.int (nI 1)], MW A B F sw, 0, 0)) rfl ?_
  refine wp_go (f' := ((if ¬ (nI 1) = 0 then 10 else 7), [.ref 0, .int (nI 3)], [], MW A B F sw, 0, 0)) 1 rfl ?_
  refine wp_ite (fun _ => ?_) (fun h9 => absurd (by decide) h9)
  refine wp_go (f' := (15, [.ref 0, .int (nI 3)], [.int (nI 3), .ref 7], MW A B F sw, 0, 0)) 3 rfl ?_
  refine wp_call rfl rfl rfl (ev_up hev (by omega)) ?_
  refine wp_eq (f' := (18, [.ref 0, .int (nI 3)], [], MW A2 B F2 sw, 0, 0)) rfl ?_
  refine wp_go (f' := (26, [.ref 0, .int (nI 3)], [.int (nI 3), .ref 15], MW A2 B F2 sw, 0, 0)) 4 rfl ?_
  refine wp_iald rfl rfl (by omega) (by decide) ?_
  exact wp_iret rfl
theorem ev_bOrder3 (hC : CI A F n nb) (hZ : CZ A) (hco : F 3 = F 2 → RI A n nb) {ed : Nat} (hE : F 1 = nI ed) (hQ : CEd n nb ed) (hO : OI A F n nb ed) (hq : CQ n nb ed 3) {k : Nat} (hk : k < n) : ∃ (A2 : Nat → Nat → Int32) (F2 : Nat → Int32), mv_Ev xs Ls 18 47 [.ref 0, .int (nI 3), .int (nI k)] (MW A B F sw) (some (.int (A2 12 k)), MW A2 B F2 sw, 0, 0) ∧ SP A A2 F F2 n nb ed 3 := by
  have hn := hC.1
  have hp := pow10 hn
  have hp1 : 1 ≤ 2 ^ n := Nat.one_le_two_pow
  have hal := all_lt hn
  obtain ⟨A2, F2, hev, hSP⟩ := settle_3 (xs := xs) (Ls := Ls) (B := B) (sw := sw) hC hZ hco hE hQ hO hq
  refine ⟨A2, F2, ?_, hSP⟩
  refine ev_of_wp rfl rfl rfl ?_
  refine wp_go (f' := (1, [.ref 0, .int (nI 3), .int (nI k)], [.int (nI 3)], MW A B F sw, 0, 0)) 1 rfl ?_
  refine wp_call rfl rfl rfl (ev_up ev_kind3 (by omega)) ?_
  refine wp_eq (f' := (4, [.ref 0, .int (nI 3), .int (nI k)], [.int (nI 1)], MW A B F sw, 0, 0)) rfl ?_
  refine wp_go (f' := ((if ¬ (nI 1) = 0 then 10 else 7), [.ref 0, .int (nI 3), .int (nI k)], [], MW A B F sw, 0, 0)) 1 rfl ?_
  refine wp_ite (fun _ => ?_) (fun h9 => absurd (by decide) h9)
  refine wp_go (f' := ((if (nI k) < 0 then 25 else 14), [.ref 0, .int (nI 3), .int (nI k)], [], MW A B F sw, 0, 0)) 2 rfl ?_
  refine wp_ite (fun h9 => absurd h9 (nI_pos (n := k) (by omega))) (fun _ => ?_)
  refine wp_go (f' := (22, [.ref 0, .int (nI 3), .int (nI k)], [.int (F 0), .int (nI k)], MW A B F sw, 0, 0)) 4 rfl ?_
  rw [hC.2.1]
  refine wp_go (f' := ((if (nI k) < (nI n) then 27 else 25), [.ref 0, .int (nI 3), .int (nI k)], [], MW A B F sw, 0, 0)) 1 rfl ?_
  refine wp_ite (fun _ => ?_) (fun h9 => absurd (nI_lt hk (by omega)) h9)
  refine wp_go (f' := (32, [.ref 0, .int (nI 3), .int (nI k)], [.int (nI 3), .ref 7], MW A B F sw, 0, 0)) 3 rfl ?_
  refine wp_call rfl rfl rfl (ev_up hev (by omega)) ?_
  refine wp_eq (f' := (35, [.ref 0, .int (nI 3), .int (nI k)], [], MW A2 B F2 sw, 0, 0)) rfl ?_
  refine wp_go (f' := (43, [.ref 0, .int (nI 3), .int (nI k)], [.int (nI 3), .ref 8], MW A2 B F2 sw, 0, 0)) 4 rfl ?_
  refine wp_aald rfl rfl (by decide) (by decide) ?_
  refine wp_eq (f' := (44, [.ref 0, .int (nI 3), .int (nI k)], [.ref 12], MW A2 B F2 sw, 0, 0)) rfl ?_
  refine wp_go (f' := (45, [.ref 0, .int (nI 3), .int (nI k)], [.int (nI k), .ref 12], MW A2 B F2 sw, 0, 0)) 1 rfl ?_
  refine wp_iald rfl rfl (by omega) (by decide) ?_
  exact wp_iret rfl
theorem ev_bSeen3 (hC : CI A F n nb) (hZ : CZ A) (hco : F 3 = F 2 → RI A n nb) {ed : Nat} (hE : F 1 = nI ed) (hQ : CEd n nb ed) (hO : OI A F n nb ed) (hq : CQ n nb ed 3) {v : Nat} (hv : v < n) : ∃ (A2 : Nat → Nat → Int32) (F2 : Nat → Int32), SP A A2 F F2 n nb ed 3 ∧ ∀ (r : Nat → Nat) (k0 : Nat), k0 < n → (∀ j, j < n → A2 12 j = nI (r j)) → (∀ j, j < n → r j < n) → r k0 = v → (∀ j, j < k0 → r j ≠ v) → mv_Ev xs Ls 18 48 [.ref 0, .int (nI 3), .int (nI v)] (MW A B F sw) (some (.int (nI (pastN nb (setR r k0) v))), MW A2 B F2 sw, 0, 0) := by
  have hn := hC.1
  have hp := pow10 hn
  have hp1 : 1 ≤ 2 ^ n := Nat.one_le_two_pow
  have hal := all_lt hn
  obtain ⟨A2, F2, hev, hSP⟩ := settle_3 (xs := xs) (Ls := Ls) (B := B) (sw := sw) hC hZ hco hE hQ hO hq
  refine ⟨A2, F2, hSP, fun r k0 hk0 hrow hrn hrv hne => ?_⟩
  have hC9 : CI A2 F2 n nb := ⟨hn, (hSP.2.1 0 (by decide) (by decide) (by decide)).trans hC.2.1, fun v hv => by rw [hSP.1 2 (by omega)]; exact hC.2.2.1 v hv, hC.2.2.2⟩
  refine ev_of_wp rfl rfl rfl ?_
  refine wp_go (f' := (1, [.ref 0, .int (nI 3), .int (nI v)], [.int (nI 3)], MW A B F sw, 0, 0)) 1 rfl ?_
  refine wp_call rfl rfl rfl (ev_up ev_kind3 (by omega)) ?_
  refine wp_eq (f' := (4, [.ref 0, .int (nI 3), .int (nI v)], [.int (nI 1)], MW A B F sw, 0, 0)) rfl ?_
  refine wp_go (f' := ((if (nI 1) = 0 then 18 else 7), [.ref 0, .int (nI 3), .int (nI v)], [], MW A B F sw, 0, 0)) 1 rfl ?_
  refine wp_ite (fun h9 => absurd h9 (by decide)) (fun _ => ?_)
  refine wp_go (f' := (12, [.ref 0, .int (nI 3), .int (nI v)], [.int (nI v), .ref 1], MW A B F sw, 0, 0)) 3 rfl ?_
  refine wp_call rfl rfl rfl (ev_up (ev_gHas hC (nI v)) (by omega)) ?_
  refine wp_eq (f' := (15, [.ref 0, .int (nI 3), .int (nI v)], [.int (bI (isV (nI v) n))], MW A B F sw, 0, 0)) rfl ?_
  refine wp_go (f' := ((if ¬ (bI (isV (nI v) n)) = 0 then 21 else 18), [.ref 0, .int (nI 3), .int (nI v)], [], MW A B F sw, 0, 0)) 1 rfl ?_
  refine wp_ite (fun _ => ?_) (fun h9 => absurd (by rw [isV_t hn hv]; decide) h9)
  refine wp_go (f' := (26, [.ref 0, .int (nI 3), .int (nI v)], [.int (nI 3), .ref 7], MW A B F sw, 0, 0)) 3 rfl ?_
  refine wp_call rfl rfl rfl (ev_up hev (by omega)) ?_
  refine wp_eq (f' := (29, [.ref 0, .int (nI 3), .int (nI v)], [], MW A2 B F2 sw, 0, 0)) rfl ?_
  refine wp_go (f' := (35, [.ref 0, .int (nI 3), .int (nI v)], [.int (nI v), .int (nI 3), .ref 7], MW A2 B F2 sw, 0, 0)) 4 rfl ?_
  refine wp_call rfl rfl rfl (ev_up (ev_seenF3 hC9 hSP.2.2.2.1 hk0 hrow hrn hrv hne) (by omega)) ?_
  refine wp_eq (f' := (38, [.ref 0, .int (nI 3), .int (nI v)], [.int (nI (pastN nb (setR r k0) v))], MW A2 B F2 sw, 0, 0)) rfl ?_
  exact wp_iret rfl
theorem settle_4 (hC : CI A F n nb) (hZ : CZ A) (hco : F 3 = F 2 → RI A n nb) {ed : Nat} (hE : F 1 = nI ed) (hQ : CEd n nb ed) (hO : OI A F n nb ed) (hq : CQ n nb ed 4) : ∃ (A2 : Nat → Nat → Int32) (F2 : Nat → Int32), mv_Ev xs Ls 17 32 [.ref 7, .int (nI 4)] (MW A B F sw) (none, MW A2 B F2 sw, 0, 0) ∧ SP A A2 F F2 n nb ed 4 := by
  have hn := hC.1
  have hp := pow10 hn
  have hp1 : 1 ≤ 2 ^ n := Nat.one_le_two_pow
  have hal := all_lt hn
  obtain ⟨r4, r5, r6, hev, hR, hZ2⟩ := ev_rows_any (xs := xs) (Ls := Ls) (B := B) (sw := sw) hC hZ hco
  obtain ⟨st, hS, hst, hkd, hH, hW⟩ := hO
  have hC1 : CI (upA (upA (upA A 4 r4) 5 r5) 6 r6) (upF F 3 (F 2)) n nb := hC
  have hkA : ∀ k, k < 6 → KD A n nb ed k → KD (upA (upA (upA A 4 r4) 5 r5) 6 r6) n nb ed k := fun k hk h => KD_congr (A := A) (by rw [upA_ne (by omega), upA_ne (by omega), upA_ne (by omega)]) rfl h
  by_cases h5 : F 5 = F 2
  · cases hb : st.testBit 4 with
    | true =>
      refine ⟨(upA (upA (upA A 4 r4) 5 r5) 6 r6), (upF F 3 (F 2)), ?_, ?_⟩
      · skip
        refine ev_of_wp rfl rfl rfl ?_
        refine wp_go (f' := (4, [.ref 7, .int (nI 4)], [.ref 1], MW A B F sw, 0, 0)) 2 rfl ?_
        refine wp_call rfl rfl rfl (ev_up hev (by omega)) ?_
        refine wp_eq (f' := (7, [.ref 7, .int (nI 4)], [], MW (upA (upA (upA A 4 r4) 5 r5) 6 r6) B (upF F 3 (F 2)) sw, 0, 0)) rfl ?_
        refine wp_go (f' := ((if (F 5) = (F 2) then 37 else 21), [.ref 7, .int (nI 4)], [], MW (upA (upA (upA A 4 r4) 5 r5) 6 r6) B (upF F 3 (F 2)) sw, 0, 0)) 6 rfl ?_
        refine wp_ite (fun _ => ?_) (fun h9 => absurd h5 h9)
        refine wp_go (f' := (41, [.ref 7, .int (nI 4)], [.int (F 4)], MW (upA (upA (upA A 4 r4) 5 r5) 6 r6) B (upF F 3 (F 2)) sw, 0, 0)) 2 rfl ?_
        rw [hS]
        refine wp_go (f' := (45, [.ref 7, .int (nI 4)], [.int (((nI st) >>> ((nI 4) &&& 31)) &&& (nI 1))], MW (upA (upA (upA A 4 r4) 5 r5) 6 r6) B (upF F 3 (F 2)) sw, 0, 0)) 4 rfl ?_
        rw [bx_bit (by omega) (by omega)]
        refine wp_go (f' := ((if (bI (st.testBit 4)) = 0 then 49 else 48), [.ref 7, .int (nI 4)], [], MW (upA (upA (upA A 4 r4) 5 r5) 6 r6) B (upF F 3 (F 2)) sw, 0, 0)) 1 rfl ?_
        refine wp_ite (fun h9 => absurd h9 (by rw [hb]; decide)) (fun _ => ?_)
        exact wp_vret rfl
      · refine ⟨fun c hc => by rw [upA_ne (by omega), upA_ne (by omega), upA_ne (by omega)], fun c h3 h4 h5 => upF_ne h3, rfl, hR, hZ2, ⟨st, hS, hst, fun h k hk hbk => hkA k hk (hkd h5 k hk hbk), hH, hW⟩, hkA 4 (by omega) (hkd h5 4 (by omega) hb), h5⟩
    | false =>
      obtain ⟨A2, hWp, hF, hK, hR2, hZ3, hH2, hW2⟩ := lay_4 (xs := xs) (Ls := Ls) (B := B) (sw := sw) (A := (upA (upA (upA A 4 r4) 5 r5) 6 r6)) (F := (upF F 3 (F 2))) hC1 hR hZ2 hE hQ hH hW (st := st) hS hst hq
      refine ⟨A2, upF (upF F 3 (F 2)) 4 (nI (st ||| 16)), ?_, ?_⟩
      · skip
        refine ev_of_wp rfl rfl rfl ?_
        refine wp_go (f' := (4, [.ref 7, .int (nI 4)], [.ref 1], MW A B F sw, 0, 0)) 2 rfl ?_
        refine wp_call rfl rfl rfl (ev_up hev (by omega)) ?_
        refine wp_eq (f' := (7, [.ref 7, .int (nI 4)], [], MW (upA (upA (upA A 4 r4) 5 r5) 6 r6) B (upF F 3 (F 2)) sw, 0, 0)) rfl ?_
        refine wp_go (f' := ((if (F 5) = (F 2) then 37 else 21), [.ref 7, .int (nI 4)], [], MW (upA (upA (upA A 4 r4) 5 r5) 6 r6) B (upF F 3 (F 2)) sw, 0, 0)) 6 rfl ?_
        refine wp_ite (fun _ => ?_) (fun h9 => absurd h5 h9)
        refine wp_go (f' := (41, [.ref 7, .int (nI 4)], [.int (F 4)], MW (upA (upA (upA A 4 r4) 5 r5) 6 r6) B (upF F 3 (F 2)) sw, 0, 0)) 2 rfl ?_
        rw [hS]
        refine wp_go (f' := (45, [.ref 7, .int (nI 4)], [.int (((nI st) >>> ((nI 4) &&& 31)) &&& (nI 1))], MW (upA (upA (upA A 4 r4) 5 r5) 6 r6) B (upF F 3 (F 2)) sw, 0, 0)) 4 rfl ?_
        rw [bx_bit (by omega) (by omega)]
        refine wp_go (f' := ((if (bI (st.testBit 4)) = 0 then 49 else 48), [.ref 7, .int (nI 4)], [], MW (upA (upA (upA A 4 r4) 5 r5) 6 r6) B (upF F 3 (F 2)) sw, 0, 0)) 1 rfl ?_
        refine wp_ite (fun _ => ?_) (fun h9 => absurd (bI_f hb) h9)
        exact hWp
      · refine ⟨fun c hc => ?_, fun c h3 h4 h5 => ?_, rfl, hR2, hZ3, ⟨st ||| 16, rfl, or_64 hst (show 4 < 6 by omega), fun h k hk hbk => ?_, hH2, hW2⟩, hK, h5⟩
        · rw [hF.1 c (by omega), upA_ne (by omega), upA_ne (by omega), upA_ne (by omega)]
        · rw [upF_ne h4, upF_ne h3]
        · by_cases e : k = 4
          · rw [e]; exact hK
          · have h6 : (st ||| 2 ^ 4).testBit k = true := hbk
            exact KD_congr (hF.2 k hk e).1 (hF.2 k hk e).2 (hkA k hk (hkd h5 k hk (bit_or2 h6 e)))
  · skip
    obtain ⟨A2, hWp, hF, hK, hR2, hZ3, hH2, hW2⟩ := lay_4 (xs := xs) (Ls := Ls) (B := B) (sw := sw) (A := (upA (upA (upA A 4 r4) 5 r5) 6 r6)) (F := (upF (upF (upF F 3 (F 2)) 5 (F 2)) 4 (nI 0))) hC1 hR hZ2 hE hQ hH hW (st := 0) rfl (by omega) hq
    refine ⟨A2, upF (upF (upF (upF F 3 (F 2)) 5 (F 2)) 4 (nI 0)) 4 (nI (0 ||| 16)), ?_, ?_⟩
    · skip
      refine ev_of_wp rfl rfl rfl ?_
      refine wp_go (f' := (4, [.ref 7, .int (nI 4)], [.ref 1], MW A B F sw, 0, 0)) 2 rfl ?_
      refine wp_call rfl rfl rfl (ev_up hev (by omega)) ?_
      refine wp_eq (f' := (7, [.ref 7, .int (nI 4)], [], MW (upA (upA (upA A 4 r4) 5 r5) 6 r6) B (upF F 3 (F 2)) sw, 0, 0)) rfl ?_
      refine wp_go (f' := ((if (F 5) = (F 2) then 37 else 21), [.ref 7, .int (nI 4)], [], MW (upA (upA (upA A 4 r4) 5 r5) 6 r6) B (upF F 3 (F 2)) sw, 0, 0)) 6 rfl ?_
      refine wp_ite (fun h9 => absurd h9 h5) (fun _ => ?_)
      refine wp_go (f' := (45, [.ref 7, .int (nI 4)], [.int (((nI 0) >>> ((nI 4) &&& 31)) &&& (nI 1))], MW (upA (upA (upA A 4 r4) 5 r5) 6 r6) B (upF (upF (upF F 3 (F 2)) 5 (F 2)) 4 (nI 0)) sw, 0, 0)) 14 rfl ?_
      rw [(by decide : (nI 0 >>> (nI 4 &&& 31)) &&& nI 1 = nI 0)]
      refine wp_go (f' := ((if (nI 0) = 0 then 49 else 48), [.ref 7, .int (nI 4)], [], MW (upA (upA (upA A 4 r4) 5 r5) 6 r6) B (upF (upF (upF F 3 (F 2)) 5 (F 2)) 4 (nI 0)) sw, 0, 0)) 1 rfl ?_
      refine wp_ite (fun _ => ?_) (fun h9 => absurd rfl h9)
      exact hWp
    · refine ⟨fun c hc => ?_, fun c h3 h4 h5 => ?_, rfl, hR2, hZ3, ⟨0 ||| 16, rfl, by decide, fun h k hk hbk => ?_, hH2, hW2⟩, hK, rfl⟩
      · rw [hF.1 c (by omega), upA_ne (by omega), upA_ne (by omega), upA_ne (by omega)]
      · rw [upF_ne h4, upF_ne h4, upF_ne h5, upF_ne h3]
      · by_cases e : k = 4
        · rw [e]; exact hK
        · have h6 : (0 ||| 2 ^ 4).testBit k = true := hbk
          exact absurd (bit_or2 h6 e) (by simp)
theorem ev_seenF4 (hC : CI A F n nb) (hR : RI A n nb) {r : Nat → Nat} {k0 v : Nat} (hk0 : k0 < n) (hrow : ∀ j, j < n → A 13 j = nI (r j)) (hrn : ∀ j, j < n → r j < n) (hv : r k0 = v) (hne : ∀ j, j < k0 → r j ≠ v) : mv_Ev xs Ls 3 49 [.ref 7, .int (nI 4), .int (nI v)] (MW A B F sw) (some (.int (nI (pastN nb (setR r k0) v))), MW A B F sw, 0, 0) := by
  refine ev_of_wp rfl rfl rfl ?_
  have hn := hC.1
  have hp := pow10 hn
  have hp1 : 1 ≤ 2 ^ n := Nat.one_le_two_pow
  have hal := all_lt hn
  refine wp_go (f' := (5, [.ref 7, .int (nI 4), .int (nI v), .int (nI 0), .int (nI 0)], [], MW A B F sw, 0, 0)) 4 rfl ?_
  refine for_ind (P := fun (k s : Nat) => s < 2 ^ n → mv_Wp xs Ls 2 4 false (some .int) mv_c49 (5, [.ref 7, .int (nI 4), .int (nI v), .int (nI s), .int (nI k)], [], MW A B F sw, 0, 0) (some (.int (nI (pastN nb (setR r k0) v))), MW A B F sw, 0, 0)) (f := fun j s => s ||| 2 ^ r j) (n := k0) ?_ k0 0 (Nat.le_refl _) ?_ hp1
  · intro k s hk ih hs
    have hrk := hrn k (by omega)
    have hvn : v < n := hv ▸ hrn k0 hk0
    refine wp_go (f' := (14, [.ref 7, .int (nI 4), .int (nI v), .int (nI s), .int (nI k)], [.int (F 0), .int (nI k)], MW A B F sw, 0, 0)) 4 rfl ?_
    rw [hC.2.1]
    refine wp_go (f' := ((if (nI n) ≤ (nI k) then 50 else 17), [.ref 7, .int (nI 4), .int (nI v), .int (nI s), .int (nI k)], [], MW A B F sw, 0, 0)) 1 rfl ?_
    refine wp_ite (fun h9 => absurd h9 (nI_ge (by omega) (by omega))) (fun _ => ?_)
    refine wp_go (f' := (22, [.ref 7, .int (nI 4), .int (nI v), .int (nI s), .int (nI k)], [.int (nI 4), .ref 8], MW A B F sw, 0, 0)) 3 rfl ?_
    refine wp_aald rfl rfl (by decide) (by decide) ?_
    refine wp_eq (f' := (23, [.ref 7, .int (nI 4), .int (nI v), .int (nI s), .int (nI k)], [.ref 13], MW A B F sw, 0, 0)) rfl ?_
    refine wp_go (f' := (25, [.ref 7, .int (nI 4), .int (nI v), .int (nI s), .int (nI k)], [.int (nI k), .ref 13], MW A B F sw, 0, 0)) 1 rfl ?_
    refine wp_iald rfl rfl (by omega) (by decide) ?_
    rw [hrow k (by omega)]
    refine wp_go (f' := ((if (nI (r k)) = (nI v) then 50 else 30), [.ref 7, .int (nI 4), .int (nI v), .int (nI s), .int (nI k)], [], MW A B F sw, 0, 0)) 2 rfl ?_
    refine wp_ite (fun h9 => absurd h9 (fun h8 => hne k hk ((nI_eq (a := r k) (b := v) (by omega) (by omega)).mp h8))) (fun _ => ?_)
    refine wp_go (f' := (37, [.ref 7, .int (nI 4), .int (nI v), .int (nI s), .int (nI k)], [.int (nI 4), .ref 8, .int (nI 1), .int (nI s)], MW A B F sw, 0, 0)) 5 rfl ?_
    refine wp_aald rfl rfl (by decide) (by decide) ?_
    refine wp_eq (f' := (38, [.ref 7, .int (nI 4), .int (nI v), .int (nI s), .int (nI k)], [.ref 13, .int (nI 1), .int (nI s)], MW A B F sw, 0, 0)) rfl ?_
    refine wp_go (f' := (40, [.ref 7, .int (nI 4), .int (nI v), .int (nI s), .int (nI k)], [.int (nI k), .ref 13, .int (nI 1), .int (nI s)], MW A B F sw, 0, 0)) 1 rfl ?_
    refine wp_iald rfl rfl (by omega) (by decide) ?_
    rw [hrow k (by omega)]
    refine wp_go (f' := (42, [.ref 7, .int (nI 4), .int (nI v), .int (nI s), .int (nI k)], [.int ((nI 1) <<< ((nI (r k)) &&& 31)), .int (nI s)], MW A B F sw, 0, 0)) 1 rfl ?_
    rw [bx_one (by omega)]
    refine wp_go (f' := (43, [.ref 7, .int (nI 4), .int (nI v), .int (nI s), .int (nI k)], [.int ((nI s) ||| (nI (2 ^ (r k))))], MW A B F sw, 0, 0)) 1 rfl ?_
    rw [bx_or]
    refine wp_go (f' := (47, [.ref 7, .int (nI 4), .int (nI v), .int (nI (s ||| (2 ^ (r k)))), .int ((nI k) + 1)], [], MW A B F sw, 0, 0)) 2 rfl ?_
    rw [nI_1]
    refine wp_go (f' := (5, [.ref 7, .int (nI 4), .int (nI v), .int (nI (s ||| (2 ^ (r k)))), .int (nI (k + 1))], [], MW A B F sw, 0, 0)) 1 rfl ?_
    exact ih (or_ltn hs hrk)
  · intro hs
    have hsl := setR_lt (r := r) (n := n) (k := k0) (fun j hj => hrn j (by omega))
    refine wp_go (f' := (14, [.ref 7, .int (nI 4), .int (nI v), .int (nI (setR r k0)), .int (nI k0)], [.int (F 0), .int (nI k0)], MW A B F sw, 0, 0)) 4 rfl ?_
    rw [hC.2.1]
    refine wp_go (f' := ((if (nI n) ≤ (nI k0) then 50 else 17), [.ref 7, .int (nI 4), .int (nI v), .int (nI (setR r k0)), .int (nI k0)], [], MW A B F sw, 0, 0)) 1 rfl ?_
    refine wp_ite (fun h9 => absurd h9 (nI_ge (by omega) (by omega))) (fun _ => ?_)
    refine wp_go (f' := (22, [.ref 7, .int (nI 4), .int (nI v), .int (nI (setR r k0)), .int (nI k0)], [.int (nI 4), .ref 8], MW A B F sw, 0, 0)) 3 rfl ?_
    refine wp_aald rfl rfl (by decide) (by decide) ?_
    refine wp_eq (f' := (23, [.ref 7, .int (nI 4), .int (nI v), .int (nI (setR r k0)), .int (nI k0)], [.ref 13], MW A B F sw, 0, 0)) rfl ?_
    refine wp_go (f' := (25, [.ref 7, .int (nI 4), .int (nI v), .int (nI (setR r k0)), .int (nI k0)], [.int (nI k0), .ref 13], MW A B F sw, 0, 0)) 1 rfl ?_
    refine wp_iald rfl rfl (by omega) (by decide) ?_
    rw [hrow k0 (by omega)]
    refine wp_go (f' := ((if (nI (r k0)) = (nI v) then 50 else 30), [.ref 7, .int (nI 4), .int (nI v), .int (nI (setR r k0)), .int (nI k0)], [], MW A B F sw, 0, 0)) 2 rfl ?_
    refine wp_ite (fun _ => ?_) (fun h9 => absurd (congrArg nI hv) h9)
    refine wp_go (f' := (56, [.ref 7, .int (nI 4), .int (nI v), .int (nI (setR r k0)), .int (nI k0)], [.int (nI v), .int (nI (setR r k0)), .ref 1], MW A B F sw, 0, 0)) 4 rfl ?_
    refine wp_call rfl rfl rfl (ev_up (ev_gSees hC hR hsl (by have h7 := hrn k0 hk0; omega)) (by decide)) ?_
    refine wp_eq (f' := (59, [.ref 7, .int (nI 4), .int (nI v), .int (nI (setR r k0)), .int (nI k0)], [.int (nI (pastN nb (setR r k0) v))], MW A B F sw, 0, 0)) rfl ?_
    exact wp_iret rfl
theorem ev_kind4 : mv_Ev xs Ls 1 31 [.int (nI 4)] (MW A B F sw) (some (.int (nI 1)), MW A B F sw, 0, 0) := by
  refine ev_of_wp rfl rfl rfl ?_
  refine wp_go (f' := ((if (nI 4) < 0 then 14 else 4), [.int (nI 4)], [], MW A B F sw, 0, 0)) 2 rfl ?_
  refine wp_ite (fun h9 => absurd h9 (by decide)) (fun _ => ?_)
  refine wp_go (f' := ((if (nI 6) ≤ (nI 4) then 14 else 10), [.int (nI 4)], [], MW A B F sw, 0, 0)) 3 rfl ?_
  refine wp_ite (fun h9 => absurd h9 (by decide)) (fun _ => ?_)
  refine wp_go (f' := (15, [.int (nI 4)], [.int (nI 1)], MW A B F sw, 0, 0)) 2 rfl ?_
  exact wp_zret rfl (by first | exact Or.inl rfl | exact Or.inr rfl)
theorem ev_bWidth4 (hC : CI A F n nb) (hZ : CZ A) (hco : F 3 = F 2 → RI A n nb) {ed : Nat} (hE : F 1 = nI ed) (hQ : CEd n nb ed) (hO : OI A F n nb ed) (hq : CQ n nb ed 4) : ∃ (A2 : Nat → Nat → Int32) (F2 : Nat → Int32), mv_Ev xs Ls 18 30 [.ref 0, .int (nI 4)] (MW A B F sw) (some (.int (A2 15 4)), MW A2 B F2 sw, 0, 0) ∧ SP A A2 F F2 n nb ed 4 := by
  have hn := hC.1
  have hp := pow10 hn
  have hp1 : 1 ≤ 2 ^ n := Nat.one_le_two_pow
  have hal := all_lt hn
  obtain ⟨A2, F2, hev, hSP⟩ := settle_4 (xs := xs) (Ls := Ls) (B := B) (sw := sw) hC hZ hco hE hQ hO hq
  refine ⟨A2, F2, ?_, hSP⟩
  refine ev_of_wp rfl rfl rfl ?_
  refine wp_go (f' := (1, [.ref 0, .int (nI 4)], [.int (nI 4)], MW A B F sw, 0, 0)) 1 rfl ?_
  refine wp_call rfl rfl rfl (ev_up ev_kind4 (by omega)) ?_
  refine wp_eq (f' := (4, [.ref 0, .int (nI 4)], [.int (nI 1)], MW A B F sw, 0, 0)) rfl ?_
  refine wp_go (f' := ((if ¬ (nI 1) = 0 then 10 else 7), [.ref 0, .int (nI 4)], [], MW A B F sw, 0, 0)) 1 rfl ?_
  refine wp_ite (fun _ => ?_) (fun h9 => absurd (by decide) h9)
  refine wp_go (f' := (15, [.ref 0, .int (nI 4)], [.int (nI 4), .ref 7], MW A B F sw, 0, 0)) 3 rfl ?_
  refine wp_call rfl rfl rfl (ev_up hev (by omega)) ?_
  refine wp_eq (f' := (18, [.ref 0, .int (nI 4)], [], MW A2 B F2 sw, 0, 0)) rfl ?_
  refine wp_go (f' := (26, [.ref 0, .int (nI 4)], [.int (nI 4), .ref 15], MW A2 B F2 sw, 0, 0)) 4 rfl ?_
  refine wp_iald rfl rfl (by omega) (by decide) ?_
  exact wp_iret rfl
theorem ev_bOrder4 (hC : CI A F n nb) (hZ : CZ A) (hco : F 3 = F 2 → RI A n nb) {ed : Nat} (hE : F 1 = nI ed) (hQ : CEd n nb ed) (hO : OI A F n nb ed) (hq : CQ n nb ed 4) {k : Nat} (hk : k < n) : ∃ (A2 : Nat → Nat → Int32) (F2 : Nat → Int32), mv_Ev xs Ls 18 47 [.ref 0, .int (nI 4), .int (nI k)] (MW A B F sw) (some (.int (A2 13 k)), MW A2 B F2 sw, 0, 0) ∧ SP A A2 F F2 n nb ed 4 := by
  have hn := hC.1
  have hp := pow10 hn
  have hp1 : 1 ≤ 2 ^ n := Nat.one_le_two_pow
  have hal := all_lt hn
  obtain ⟨A2, F2, hev, hSP⟩ := settle_4 (xs := xs) (Ls := Ls) (B := B) (sw := sw) hC hZ hco hE hQ hO hq
  refine ⟨A2, F2, ?_, hSP⟩
  refine ev_of_wp rfl rfl rfl ?_
  refine wp_go (f' := (1, [.ref 0, .int (nI 4), .int (nI k)], [.int (nI 4)], MW A B F sw, 0, 0)) 1 rfl ?_
  refine wp_call rfl rfl rfl (ev_up ev_kind4 (by omega)) ?_
  refine wp_eq (f' := (4, [.ref 0, .int (nI 4), .int (nI k)], [.int (nI 1)], MW A B F sw, 0, 0)) rfl ?_
  refine wp_go (f' := ((if ¬ (nI 1) = 0 then 10 else 7), [.ref 0, .int (nI 4), .int (nI k)], [], MW A B F sw, 0, 0)) 1 rfl ?_
  refine wp_ite (fun _ => ?_) (fun h9 => absurd (by decide) h9)
  refine wp_go (f' := ((if (nI k) < 0 then 25 else 14), [.ref 0, .int (nI 4), .int (nI k)], [], MW A B F sw, 0, 0)) 2 rfl ?_
  refine wp_ite (fun h9 => absurd h9 (nI_pos (n := k) (by omega))) (fun _ => ?_)
  refine wp_go (f' := (22, [.ref 0, .int (nI 4), .int (nI k)], [.int (F 0), .int (nI k)], MW A B F sw, 0, 0)) 4 rfl ?_
  rw [hC.2.1]
  refine wp_go (f' := ((if (nI k) < (nI n) then 27 else 25), [.ref 0, .int (nI 4), .int (nI k)], [], MW A B F sw, 0, 0)) 1 rfl ?_
  refine wp_ite (fun _ => ?_) (fun h9 => absurd (nI_lt hk (by omega)) h9)
  refine wp_go (f' := (32, [.ref 0, .int (nI 4), .int (nI k)], [.int (nI 4), .ref 7], MW A B F sw, 0, 0)) 3 rfl ?_
  refine wp_call rfl rfl rfl (ev_up hev (by omega)) ?_
  refine wp_eq (f' := (35, [.ref 0, .int (nI 4), .int (nI k)], [], MW A2 B F2 sw, 0, 0)) rfl ?_
  refine wp_go (f' := (43, [.ref 0, .int (nI 4), .int (nI k)], [.int (nI 4), .ref 8], MW A2 B F2 sw, 0, 0)) 4 rfl ?_
  refine wp_aald rfl rfl (by decide) (by decide) ?_
  refine wp_eq (f' := (44, [.ref 0, .int (nI 4), .int (nI k)], [.ref 13], MW A2 B F2 sw, 0, 0)) rfl ?_
  refine wp_go (f' := (45, [.ref 0, .int (nI 4), .int (nI k)], [.int (nI k), .ref 13], MW A2 B F2 sw, 0, 0)) 1 rfl ?_
  refine wp_iald rfl rfl (by omega) (by decide) ?_
  exact wp_iret rfl
theorem ev_bSeen4 (hC : CI A F n nb) (hZ : CZ A) (hco : F 3 = F 2 → RI A n nb) {ed : Nat} (hE : F 1 = nI ed) (hQ : CEd n nb ed) (hO : OI A F n nb ed) (hq : CQ n nb ed 4) {v : Nat} (hv : v < n) : ∃ (A2 : Nat → Nat → Int32) (F2 : Nat → Int32), SP A A2 F F2 n nb ed 4 ∧ ∀ (r : Nat → Nat) (k0 : Nat), k0 < n → (∀ j, j < n → A2 13 j = nI (r j)) → (∀ j, j < n → r j < n) → r k0 = v → (∀ j, j < k0 → r j ≠ v) → mv_Ev xs Ls 18 48 [.ref 0, .int (nI 4), .int (nI v)] (MW A B F sw) (some (.int (nI (pastN nb (setR r k0) v))), MW A2 B F2 sw, 0, 0) := by
  have hn := hC.1
  have hp := pow10 hn
  have hp1 : 1 ≤ 2 ^ n := Nat.one_le_two_pow
  have hal := all_lt hn
  obtain ⟨A2, F2, hev, hSP⟩ := settle_4 (xs := xs) (Ls := Ls) (B := B) (sw := sw) hC hZ hco hE hQ hO hq
  refine ⟨A2, F2, hSP, fun r k0 hk0 hrow hrn hrv hne => ?_⟩
  have hC9 : CI A2 F2 n nb := ⟨hn, (hSP.2.1 0 (by decide) (by decide) (by decide)).trans hC.2.1, fun v hv => by rw [hSP.1 2 (by omega)]; exact hC.2.2.1 v hv, hC.2.2.2⟩
  refine ev_of_wp rfl rfl rfl ?_
  refine wp_go (f' := (1, [.ref 0, .int (nI 4), .int (nI v)], [.int (nI 4)], MW A B F sw, 0, 0)) 1 rfl ?_
  refine wp_call rfl rfl rfl (ev_up ev_kind4 (by omega)) ?_
  refine wp_eq (f' := (4, [.ref 0, .int (nI 4), .int (nI v)], [.int (nI 1)], MW A B F sw, 0, 0)) rfl ?_
  refine wp_go (f' := ((if (nI 1) = 0 then 18 else 7), [.ref 0, .int (nI 4), .int (nI v)], [], MW A B F sw, 0, 0)) 1 rfl ?_
  refine wp_ite (fun h9 => absurd h9 (by decide)) (fun _ => ?_)
  refine wp_go (f' := (12, [.ref 0, .int (nI 4), .int (nI v)], [.int (nI v), .ref 1], MW A B F sw, 0, 0)) 3 rfl ?_
  refine wp_call rfl rfl rfl (ev_up (ev_gHas hC (nI v)) (by omega)) ?_
  refine wp_eq (f' := (15, [.ref 0, .int (nI 4), .int (nI v)], [.int (bI (isV (nI v) n))], MW A B F sw, 0, 0)) rfl ?_
  refine wp_go (f' := ((if ¬ (bI (isV (nI v) n)) = 0 then 21 else 18), [.ref 0, .int (nI 4), .int (nI v)], [], MW A B F sw, 0, 0)) 1 rfl ?_
  refine wp_ite (fun _ => ?_) (fun h9 => absurd (by rw [isV_t hn hv]; decide) h9)
  refine wp_go (f' := (26, [.ref 0, .int (nI 4), .int (nI v)], [.int (nI 4), .ref 7], MW A B F sw, 0, 0)) 3 rfl ?_
  refine wp_call rfl rfl rfl (ev_up hev (by omega)) ?_
  refine wp_eq (f' := (29, [.ref 0, .int (nI 4), .int (nI v)], [], MW A2 B F2 sw, 0, 0)) rfl ?_
  refine wp_go (f' := (35, [.ref 0, .int (nI 4), .int (nI v)], [.int (nI v), .int (nI 4), .ref 7], MW A2 B F2 sw, 0, 0)) 4 rfl ?_
  refine wp_call rfl rfl rfl (ev_up (ev_seenF4 hC9 hSP.2.2.2.1 hk0 hrow hrn hrv hne) (by omega)) ?_
  refine wp_eq (f' := (38, [.ref 0, .int (nI 4), .int (nI v)], [.int (nI (pastN nb (setR r k0) v))], MW A2 B F2 sw, 0, 0)) rfl ?_
  exact wp_iret rfl
theorem settle_5 (hC : CI A F n nb) (hZ : CZ A) (hco : F 3 = F 2 → RI A n nb) {ed : Nat} (hE : F 1 = nI ed) (hQ : CEd n nb ed) (hO : OI A F n nb ed) : ∃ (A2 : Nat → Nat → Int32) (F2 : Nat → Int32), mv_Ev xs Ls 17 32 [.ref 7, .int (nI 5)] (MW A B F sw) (none, MW A2 B F2 sw, 0, 0) ∧ SP A A2 F F2 n nb ed 5 := by
  have hn := hC.1
  have hp := pow10 hn
  have hp1 : 1 ≤ 2 ^ n := Nat.one_le_two_pow
  have hal := all_lt hn
  obtain ⟨r4, r5, r6, hev, hR, hZ2⟩ := ev_rows_any (xs := xs) (Ls := Ls) (B := B) (sw := sw) hC hZ hco
  obtain ⟨st, hS, hst, hkd, hH, hW⟩ := hO
  have hC1 : CI (upA (upA (upA A 4 r4) 5 r5) 6 r6) (upF F 3 (F 2)) n nb := hC
  have hkA : ∀ k, k < 6 → KD A n nb ed k → KD (upA (upA (upA A 4 r4) 5 r5) 6 r6) n nb ed k := fun k hk h => KD_congr (A := A) (by rw [upA_ne (by omega), upA_ne (by omega), upA_ne (by omega)]) rfl h
  by_cases h5 : F 5 = F 2
  · cases hb : st.testBit 5 with
    | true =>
      refine ⟨(upA (upA (upA A 4 r4) 5 r5) 6 r6), (upF F 3 (F 2)), ?_, ?_⟩
      · skip
        refine ev_of_wp rfl rfl rfl ?_
        refine wp_go (f' := (4, [.ref 7, .int (nI 5)], [.ref 1], MW A B F sw, 0, 0)) 2 rfl ?_
        refine wp_call rfl rfl rfl (ev_up hev (by omega)) ?_
        refine wp_eq (f' := (7, [.ref 7, .int (nI 5)], [], MW (upA (upA (upA A 4 r4) 5 r5) 6 r6) B (upF F 3 (F 2)) sw, 0, 0)) rfl ?_
        refine wp_go (f' := ((if (F 5) = (F 2) then 37 else 21), [.ref 7, .int (nI 5)], [], MW (upA (upA (upA A 4 r4) 5 r5) 6 r6) B (upF F 3 (F 2)) sw, 0, 0)) 6 rfl ?_
        refine wp_ite (fun _ => ?_) (fun h9 => absurd h5 h9)
        refine wp_go (f' := (41, [.ref 7, .int (nI 5)], [.int (F 4)], MW (upA (upA (upA A 4 r4) 5 r5) 6 r6) B (upF F 3 (F 2)) sw, 0, 0)) 2 rfl ?_
        rw [hS]
        refine wp_go (f' := (45, [.ref 7, .int (nI 5)], [.int (((nI st) >>> ((nI 5) &&& 31)) &&& (nI 1))], MW (upA (upA (upA A 4 r4) 5 r5) 6 r6) B (upF F 3 (F 2)) sw, 0, 0)) 4 rfl ?_
        rw [bx_bit (by omega) (by omega)]
        refine wp_go (f' := ((if (bI (st.testBit 5)) = 0 then 49 else 48), [.ref 7, .int (nI 5)], [], MW (upA (upA (upA A 4 r4) 5 r5) 6 r6) B (upF F 3 (F 2)) sw, 0, 0)) 1 rfl ?_
        refine wp_ite (fun h9 => absurd h9 (by rw [hb]; decide)) (fun _ => ?_)
        exact wp_vret rfl
      · refine ⟨fun c hc => by rw [upA_ne (by omega), upA_ne (by omega), upA_ne (by omega)], fun c h3 h4 h5 => upF_ne h3, rfl, hR, hZ2, ⟨st, hS, hst, fun h k hk hbk => hkA k hk (hkd h5 k hk hbk), hH, hW⟩, hkA 5 (by omega) (hkd h5 5 (by omega) hb), h5⟩
    | false =>
      obtain ⟨A2, hWp, hF, hK, hR2, hZ3, hH2, hW2⟩ := lay_5 (xs := xs) (Ls := Ls) (B := B) (sw := sw) (A := (upA (upA (upA A 4 r4) 5 r5) 6 r6)) (F := (upF F 3 (F 2))) hC1 hR hZ2 hE hQ hH hW (st := st) hS hst 
      refine ⟨A2, upF (upF F 3 (F 2)) 4 (nI (st ||| 32)), ?_, ?_⟩
      · skip
        refine ev_of_wp rfl rfl rfl ?_
        refine wp_go (f' := (4, [.ref 7, .int (nI 5)], [.ref 1], MW A B F sw, 0, 0)) 2 rfl ?_
        refine wp_call rfl rfl rfl (ev_up hev (by omega)) ?_
        refine wp_eq (f' := (7, [.ref 7, .int (nI 5)], [], MW (upA (upA (upA A 4 r4) 5 r5) 6 r6) B (upF F 3 (F 2)) sw, 0, 0)) rfl ?_
        refine wp_go (f' := ((if (F 5) = (F 2) then 37 else 21), [.ref 7, .int (nI 5)], [], MW (upA (upA (upA A 4 r4) 5 r5) 6 r6) B (upF F 3 (F 2)) sw, 0, 0)) 6 rfl ?_
        refine wp_ite (fun _ => ?_) (fun h9 => absurd h5 h9)
        refine wp_go (f' := (41, [.ref 7, .int (nI 5)], [.int (F 4)], MW (upA (upA (upA A 4 r4) 5 r5) 6 r6) B (upF F 3 (F 2)) sw, 0, 0)) 2 rfl ?_
        rw [hS]
        refine wp_go (f' := (45, [.ref 7, .int (nI 5)], [.int (((nI st) >>> ((nI 5) &&& 31)) &&& (nI 1))], MW (upA (upA (upA A 4 r4) 5 r5) 6 r6) B (upF F 3 (F 2)) sw, 0, 0)) 4 rfl ?_
        rw [bx_bit (by omega) (by omega)]
        refine wp_go (f' := ((if (bI (st.testBit 5)) = 0 then 49 else 48), [.ref 7, .int (nI 5)], [], MW (upA (upA (upA A 4 r4) 5 r5) 6 r6) B (upF F 3 (F 2)) sw, 0, 0)) 1 rfl ?_
        refine wp_ite (fun _ => ?_) (fun h9 => absurd (bI_f hb) h9)
        exact hWp
      · refine ⟨fun c hc => ?_, fun c h3 h4 h5 => ?_, rfl, hR2, hZ3, ⟨st ||| 32, rfl, or_64 hst (show 5 < 6 by omega), fun h k hk hbk => ?_, hH2, hW2⟩, hK, h5⟩
        · rw [hF.1 c (by omega), upA_ne (by omega), upA_ne (by omega), upA_ne (by omega)]
        · rw [upF_ne h4, upF_ne h3]
        · by_cases e : k = 5
          · rw [e]; exact hK
          · have h6 : (st ||| 2 ^ 5).testBit k = true := hbk
            exact KD_congr (hF.2 k hk e).1 (hF.2 k hk e).2 (hkA k hk (hkd h5 k hk (bit_or2 h6 e)))
  · skip
    obtain ⟨A2, hWp, hF, hK, hR2, hZ3, hH2, hW2⟩ := lay_5 (xs := xs) (Ls := Ls) (B := B) (sw := sw) (A := (upA (upA (upA A 4 r4) 5 r5) 6 r6)) (F := (upF (upF (upF F 3 (F 2)) 5 (F 2)) 4 (nI 0))) hC1 hR hZ2 hE hQ hH hW (st := 0) rfl (by omega) 
    refine ⟨A2, upF (upF (upF (upF F 3 (F 2)) 5 (F 2)) 4 (nI 0)) 4 (nI (0 ||| 32)), ?_, ?_⟩
    · skip
      refine ev_of_wp rfl rfl rfl ?_
      refine wp_go (f' := (4, [.ref 7, .int (nI 5)], [.ref 1], MW A B F sw, 0, 0)) 2 rfl ?_
      refine wp_call rfl rfl rfl (ev_up hev (by omega)) ?_
      refine wp_eq (f' := (7, [.ref 7, .int (nI 5)], [], MW (upA (upA (upA A 4 r4) 5 r5) 6 r6) B (upF F 3 (F 2)) sw, 0, 0)) rfl ?_
      refine wp_go (f' := ((if (F 5) = (F 2) then 37 else 21), [.ref 7, .int (nI 5)], [], MW (upA (upA (upA A 4 r4) 5 r5) 6 r6) B (upF F 3 (F 2)) sw, 0, 0)) 6 rfl ?_
      refine wp_ite (fun h9 => absurd h9 h5) (fun _ => ?_)
      refine wp_go (f' := (45, [.ref 7, .int (nI 5)], [.int (((nI 0) >>> ((nI 5) &&& 31)) &&& (nI 1))], MW (upA (upA (upA A 4 r4) 5 r5) 6 r6) B (upF (upF (upF F 3 (F 2)) 5 (F 2)) 4 (nI 0)) sw, 0, 0)) 14 rfl ?_
      rw [(by decide : (nI 0 >>> (nI 5 &&& 31)) &&& nI 1 = nI 0)]
      refine wp_go (f' := ((if (nI 0) = 0 then 49 else 48), [.ref 7, .int (nI 5)], [], MW (upA (upA (upA A 4 r4) 5 r5) 6 r6) B (upF (upF (upF F 3 (F 2)) 5 (F 2)) 4 (nI 0)) sw, 0, 0)) 1 rfl ?_
      refine wp_ite (fun _ => ?_) (fun h9 => absurd rfl h9)
      exact hWp
    · refine ⟨fun c hc => ?_, fun c h3 h4 h5 => ?_, rfl, hR2, hZ3, ⟨0 ||| 32, rfl, by decide, fun h k hk hbk => ?_, hH2, hW2⟩, hK, rfl⟩
      · rw [hF.1 c (by omega), upA_ne (by omega), upA_ne (by omega), upA_ne (by omega)]
      · rw [upF_ne h4, upF_ne h4, upF_ne h5, upF_ne h3]
      · by_cases e : k = 5
        · rw [e]; exact hK
        · have h6 : (0 ||| 2 ^ 5).testBit k = true := hbk
          exact absurd (bit_or2 h6 e) (by simp)
theorem ev_seenF5 (hC : CI A F n nb) (hR : RI A n nb) {r : Nat → Nat} {k0 v : Nat} (hk0 : k0 < n) (hrow : ∀ j, j < n → A 14 j = nI (r j)) (hrn : ∀ j, j < n → r j < n) (hv : r k0 = v) (hne : ∀ j, j < k0 → r j ≠ v) : mv_Ev xs Ls 3 49 [.ref 7, .int (nI 5), .int (nI v)] (MW A B F sw) (some (.int (nI (pastN nb (setR r k0) v))), MW A B F sw, 0, 0) := by
  refine ev_of_wp rfl rfl rfl ?_
  have hn := hC.1
  have hp := pow10 hn
  have hp1 : 1 ≤ 2 ^ n := Nat.one_le_two_pow
  have hal := all_lt hn
  refine wp_go (f' := (5, [.ref 7, .int (nI 5), .int (nI v), .int (nI 0), .int (nI 0)], [], MW A B F sw, 0, 0)) 4 rfl ?_
  refine for_ind (P := fun (k s : Nat) => s < 2 ^ n → mv_Wp xs Ls 2 4 false (some .int) mv_c49 (5, [.ref 7, .int (nI 5), .int (nI v), .int (nI s), .int (nI k)], [], MW A B F sw, 0, 0) (some (.int (nI (pastN nb (setR r k0) v))), MW A B F sw, 0, 0)) (f := fun j s => s ||| 2 ^ r j) (n := k0) ?_ k0 0 (Nat.le_refl _) ?_ hp1
  · intro k s hk ih hs
    have hrk := hrn k (by omega)
    have hvn : v < n := hv ▸ hrn k0 hk0
    refine wp_go (f' := (14, [.ref 7, .int (nI 5), .int (nI v), .int (nI s), .int (nI k)], [.int (F 0), .int (nI k)], MW A B F sw, 0, 0)) 4 rfl ?_
    rw [hC.2.1]
    refine wp_go (f' := ((if (nI n) ≤ (nI k) then 50 else 17), [.ref 7, .int (nI 5), .int (nI v), .int (nI s), .int (nI k)], [], MW A B F sw, 0, 0)) 1 rfl ?_
    refine wp_ite (fun h9 => absurd h9 (nI_ge (by omega) (by omega))) (fun _ => ?_)
    refine wp_go (f' := (22, [.ref 7, .int (nI 5), .int (nI v), .int (nI s), .int (nI k)], [.int (nI 5), .ref 8], MW A B F sw, 0, 0)) 3 rfl ?_
    refine wp_aald rfl rfl (by decide) (by decide) ?_
    refine wp_eq (f' := (23, [.ref 7, .int (nI 5), .int (nI v), .int (nI s), .int (nI k)], [.ref 14], MW A B F sw, 0, 0)) rfl ?_
    refine wp_go (f' := (25, [.ref 7, .int (nI 5), .int (nI v), .int (nI s), .int (nI k)], [.int (nI k), .ref 14], MW A B F sw, 0, 0)) 1 rfl ?_
    refine wp_iald rfl rfl (by omega) (by decide) ?_
    rw [hrow k (by omega)]
    refine wp_go (f' := ((if (nI (r k)) = (nI v) then 50 else 30), [.ref 7, .int (nI 5), .int (nI v), .int (nI s), .int (nI k)], [], MW A B F sw, 0, 0)) 2 rfl ?_
    refine wp_ite (fun h9 => absurd h9 (fun h8 => hne k hk ((nI_eq (a := r k) (b := v) (by omega) (by omega)).mp h8))) (fun _ => ?_)
    refine wp_go (f' := (37, [.ref 7, .int (nI 5), .int (nI v), .int (nI s), .int (nI k)], [.int (nI 5), .ref 8, .int (nI 1), .int (nI s)], MW A B F sw, 0, 0)) 5 rfl ?_
    refine wp_aald rfl rfl (by decide) (by decide) ?_
    refine wp_eq (f' := (38, [.ref 7, .int (nI 5), .int (nI v), .int (nI s), .int (nI k)], [.ref 14, .int (nI 1), .int (nI s)], MW A B F sw, 0, 0)) rfl ?_
    refine wp_go (f' := (40, [.ref 7, .int (nI 5), .int (nI v), .int (nI s), .int (nI k)], [.int (nI k), .ref 14, .int (nI 1), .int (nI s)], MW A B F sw, 0, 0)) 1 rfl ?_
    refine wp_iald rfl rfl (by omega) (by decide) ?_
    rw [hrow k (by omega)]
    refine wp_go (f' := (42, [.ref 7, .int (nI 5), .int (nI v), .int (nI s), .int (nI k)], [.int ((nI 1) <<< ((nI (r k)) &&& 31)), .int (nI s)], MW A B F sw, 0, 0)) 1 rfl ?_
    rw [bx_one (by omega)]
    refine wp_go (f' := (43, [.ref 7, .int (nI 5), .int (nI v), .int (nI s), .int (nI k)], [.int ((nI s) ||| (nI (2 ^ (r k))))], MW A B F sw, 0, 0)) 1 rfl ?_
    rw [bx_or]
    refine wp_go (f' := (47, [.ref 7, .int (nI 5), .int (nI v), .int (nI (s ||| (2 ^ (r k)))), .int ((nI k) + 1)], [], MW A B F sw, 0, 0)) 2 rfl ?_
    rw [nI_1]
    refine wp_go (f' := (5, [.ref 7, .int (nI 5), .int (nI v), .int (nI (s ||| (2 ^ (r k)))), .int (nI (k + 1))], [], MW A B F sw, 0, 0)) 1 rfl ?_
    exact ih (or_ltn hs hrk)
  · intro hs
    have hsl := setR_lt (r := r) (n := n) (k := k0) (fun j hj => hrn j (by omega))
    refine wp_go (f' := (14, [.ref 7, .int (nI 5), .int (nI v), .int (nI (setR r k0)), .int (nI k0)], [.int (F 0), .int (nI k0)], MW A B F sw, 0, 0)) 4 rfl ?_
    rw [hC.2.1]
    refine wp_go (f' := ((if (nI n) ≤ (nI k0) then 50 else 17), [.ref 7, .int (nI 5), .int (nI v), .int (nI (setR r k0)), .int (nI k0)], [], MW A B F sw, 0, 0)) 1 rfl ?_
    refine wp_ite (fun h9 => absurd h9 (nI_ge (by omega) (by omega))) (fun _ => ?_)
    refine wp_go (f' := (22, [.ref 7, .int (nI 5), .int (nI v), .int (nI (setR r k0)), .int (nI k0)], [.int (nI 5), .ref 8], MW A B F sw, 0, 0)) 3 rfl ?_
    refine wp_aald rfl rfl (by decide) (by decide) ?_
    refine wp_eq (f' := (23, [.ref 7, .int (nI 5), .int (nI v), .int (nI (setR r k0)), .int (nI k0)], [.ref 14], MW A B F sw, 0, 0)) rfl ?_
    refine wp_go (f' := (25, [.ref 7, .int (nI 5), .int (nI v), .int (nI (setR r k0)), .int (nI k0)], [.int (nI k0), .ref 14], MW A B F sw, 0, 0)) 1 rfl ?_
    refine wp_iald rfl rfl (by omega) (by decide) ?_
    rw [hrow k0 (by omega)]
    refine wp_go (f' := ((if (nI (r k0)) = (nI v) then 50 else 30), [.ref 7, .int (nI 5), .int (nI v), .int (nI (setR r k0)), .int (nI k0)], [], MW A B F sw, 0, 0)) 2 rfl ?_
    refine wp_ite (fun _ => ?_) (fun h9 => absurd (congrArg nI hv) h9)
    refine wp_go (f' := (56, [.ref 7, .int (nI 5), .int (nI v), .int (nI (setR r k0)), .int (nI k0)], [.int (nI v), .int (nI (setR r k0)), .ref 1], MW A B F sw, 0, 0)) 4 rfl ?_
    refine wp_call rfl rfl rfl (ev_up (ev_gSees hC hR hsl (by have h7 := hrn k0 hk0; omega)) (by decide)) ?_
    refine wp_eq (f' := (59, [.ref 7, .int (nI 5), .int (nI v), .int (nI (setR r k0)), .int (nI k0)], [.int (nI (pastN nb (setR r k0) v))], MW A B F sw, 0, 0)) rfl ?_
    exact wp_iret rfl
theorem ev_kind5 : mv_Ev xs Ls 1 31 [.int (nI 5)] (MW A B F sw) (some (.int (nI 1)), MW A B F sw, 0, 0) := by
  refine ev_of_wp rfl rfl rfl ?_
  refine wp_go (f' := ((if (nI 5) < 0 then 14 else 4), [.int (nI 5)], [], MW A B F sw, 0, 0)) 2 rfl ?_
  refine wp_ite (fun h9 => absurd h9 (by decide)) (fun _ => ?_)
  refine wp_go (f' := ((if (nI 6) ≤ (nI 5) then 14 else 10), [.int (nI 5)], [], MW A B F sw, 0, 0)) 3 rfl ?_
  refine wp_ite (fun h9 => absurd h9 (by decide)) (fun _ => ?_)
  refine wp_go (f' := (15, [.int (nI 5)], [.int (nI 1)], MW A B F sw, 0, 0)) 2 rfl ?_
  exact wp_zret rfl (by first | exact Or.inl rfl | exact Or.inr rfl)
theorem ev_bWidth5 (hC : CI A F n nb) (hZ : CZ A) (hco : F 3 = F 2 → RI A n nb) {ed : Nat} (hE : F 1 = nI ed) (hQ : CEd n nb ed) (hO : OI A F n nb ed) : ∃ (A2 : Nat → Nat → Int32) (F2 : Nat → Int32), mv_Ev xs Ls 18 30 [.ref 0, .int (nI 5)] (MW A B F sw) (some (.int (A2 15 5)), MW A2 B F2 sw, 0, 0) ∧ SP A A2 F F2 n nb ed 5 := by
  have hn := hC.1
  have hp := pow10 hn
  have hp1 : 1 ≤ 2 ^ n := Nat.one_le_two_pow
  have hal := all_lt hn
  obtain ⟨A2, F2, hev, hSP⟩ := settle_5 (xs := xs) (Ls := Ls) (B := B) (sw := sw) hC hZ hco hE hQ hO 
  refine ⟨A2, F2, ?_, hSP⟩
  refine ev_of_wp rfl rfl rfl ?_
  refine wp_go (f' := (1, [.ref 0, .int (nI 5)], [.int (nI 5)], MW A B F sw, 0, 0)) 1 rfl ?_
  refine wp_call rfl rfl rfl (ev_up ev_kind5 (by omega)) ?_
  refine wp_eq (f' := (4, [.ref 0, .int (nI 5)], [.int (nI 1)], MW A B F sw, 0, 0)) rfl ?_
  refine wp_go (f' := ((if ¬ (nI 1) = 0 then 10 else 7), [.ref 0, .int (nI 5)], [], MW A B F sw, 0, 0)) 1 rfl ?_
  refine wp_ite (fun _ => ?_) (fun h9 => absurd (by decide) h9)
  refine wp_go (f' := (15, [.ref 0, .int (nI 5)], [.int (nI 5), .ref 7], MW A B F sw, 0, 0)) 3 rfl ?_
  refine wp_call rfl rfl rfl (ev_up hev (by omega)) ?_
  refine wp_eq (f' := (18, [.ref 0, .int (nI 5)], [], MW A2 B F2 sw, 0, 0)) rfl ?_
  refine wp_go (f' := (26, [.ref 0, .int (nI 5)], [.int (nI 5), .ref 15], MW A2 B F2 sw, 0, 0)) 4 rfl ?_
  refine wp_iald rfl rfl (by omega) (by decide) ?_
  exact wp_iret rfl
theorem ev_bOrder5 (hC : CI A F n nb) (hZ : CZ A) (hco : F 3 = F 2 → RI A n nb) {ed : Nat} (hE : F 1 = nI ed) (hQ : CEd n nb ed) (hO : OI A F n nb ed) {k : Nat} (hk : k < n) : ∃ (A2 : Nat → Nat → Int32) (F2 : Nat → Int32), mv_Ev xs Ls 18 47 [.ref 0, .int (nI 5), .int (nI k)] (MW A B F sw) (some (.int (A2 14 k)), MW A2 B F2 sw, 0, 0) ∧ SP A A2 F F2 n nb ed 5 := by
  have hn := hC.1
  have hp := pow10 hn
  have hp1 : 1 ≤ 2 ^ n := Nat.one_le_two_pow
  have hal := all_lt hn
  obtain ⟨A2, F2, hev, hSP⟩ := settle_5 (xs := xs) (Ls := Ls) (B := B) (sw := sw) hC hZ hco hE hQ hO 
  refine ⟨A2, F2, ?_, hSP⟩
  refine ev_of_wp rfl rfl rfl ?_
  refine wp_go (f' := (1, [.ref 0, .int (nI 5), .int (nI k)], [.int (nI 5)], MW A B F sw, 0, 0)) 1 rfl ?_
  refine wp_call rfl rfl rfl (ev_up ev_kind5 (by omega)) ?_
  refine wp_eq (f' := (4, [.ref 0, .int (nI 5), .int (nI k)], [.int (nI 1)], MW A B F sw, 0, 0)) rfl ?_
  refine wp_go (f' := ((if ¬ (nI 1) = 0 then 10 else 7), [.ref 0, .int (nI 5), .int (nI k)], [], MW A B F sw, 0, 0)) 1 rfl ?_
  refine wp_ite (fun _ => ?_) (fun h9 => absurd (by decide) h9)
  refine wp_go (f' := ((if (nI k) < 0 then 25 else 14), [.ref 0, .int (nI 5), .int (nI k)], [], MW A B F sw, 0, 0)) 2 rfl ?_
  refine wp_ite (fun h9 => absurd h9 (nI_pos (n := k) (by omega))) (fun _ => ?_)
  refine wp_go (f' := (22, [.ref 0, .int (nI 5), .int (nI k)], [.int (F 0), .int (nI k)], MW A B F sw, 0, 0)) 4 rfl ?_
  rw [hC.2.1]
  refine wp_go (f' := ((if (nI k) < (nI n) then 27 else 25), [.ref 0, .int (nI 5), .int (nI k)], [], MW A B F sw, 0, 0)) 1 rfl ?_
  refine wp_ite (fun _ => ?_) (fun h9 => absurd (nI_lt hk (by omega)) h9)
  refine wp_go (f' := (32, [.ref 0, .int (nI 5), .int (nI k)], [.int (nI 5), .ref 7], MW A B F sw, 0, 0)) 3 rfl ?_
  refine wp_call rfl rfl rfl (ev_up hev (by omega)) ?_
  refine wp_eq (f' := (35, [.ref 0, .int (nI 5), .int (nI k)], [], MW A2 B F2 sw, 0, 0)) rfl ?_
  refine wp_go (f' := (43, [.ref 0, .int (nI 5), .int (nI k)], [.int (nI 5), .ref 8], MW A2 B F2 sw, 0, 0)) 4 rfl ?_
  refine wp_aald rfl rfl (by decide) (by decide) ?_
  refine wp_eq (f' := (44, [.ref 0, .int (nI 5), .int (nI k)], [.ref 14], MW A2 B F2 sw, 0, 0)) rfl ?_
  refine wp_go (f' := (45, [.ref 0, .int (nI 5), .int (nI k)], [.int (nI k), .ref 14], MW A2 B F2 sw, 0, 0)) 1 rfl ?_
  refine wp_iald rfl rfl (by omega) (by decide) ?_
  exact wp_iret rfl
theorem ev_bSeen5 (hC : CI A F n nb) (hZ : CZ A) (hco : F 3 = F 2 → RI A n nb) {ed : Nat} (hE : F 1 = nI ed) (hQ : CEd n nb ed) (hO : OI A F n nb ed) {v : Nat} (hv : v < n) : ∃ (A2 : Nat → Nat → Int32) (F2 : Nat → Int32), SP A A2 F F2 n nb ed 5 ∧ ∀ (r : Nat → Nat) (k0 : Nat), k0 < n → (∀ j, j < n → A2 14 j = nI (r j)) → (∀ j, j < n → r j < n) → r k0 = v → (∀ j, j < k0 → r j ≠ v) → mv_Ev xs Ls 18 48 [.ref 0, .int (nI 5), .int (nI v)] (MW A B F sw) (some (.int (nI (pastN nb (setR r k0) v))), MW A2 B F2 sw, 0, 0) := by
  have hn := hC.1
  have hp := pow10 hn
  have hp1 : 1 ≤ 2 ^ n := Nat.one_le_two_pow
  have hal := all_lt hn
  obtain ⟨A2, F2, hev, hSP⟩ := settle_5 (xs := xs) (Ls := Ls) (B := B) (sw := sw) hC hZ hco hE hQ hO 
  refine ⟨A2, F2, hSP, fun r k0 hk0 hrow hrn hrv hne => ?_⟩
  have hC9 : CI A2 F2 n nb := ⟨hn, (hSP.2.1 0 (by decide) (by decide) (by decide)).trans hC.2.1, fun v hv => by rw [hSP.1 2 (by omega)]; exact hC.2.2.1 v hv, hC.2.2.2⟩
  refine ev_of_wp rfl rfl rfl ?_
  refine wp_go (f' := (1, [.ref 0, .int (nI 5), .int (nI v)], [.int (nI 5)], MW A B F sw, 0, 0)) 1 rfl ?_
  refine wp_call rfl rfl rfl (ev_up ev_kind5 (by omega)) ?_
  refine wp_eq (f' := (4, [.ref 0, .int (nI 5), .int (nI v)], [.int (nI 1)], MW A B F sw, 0, 0)) rfl ?_
  refine wp_go (f' := ((if (nI 1) = 0 then 18 else 7), [.ref 0, .int (nI 5), .int (nI v)], [], MW A B F sw, 0, 0)) 1 rfl ?_
  refine wp_ite (fun h9 => absurd h9 (by decide)) (fun _ => ?_)
  refine wp_go (f' := (12, [.ref 0, .int (nI 5), .int (nI v)], [.int (nI v), .ref 1], MW A B F sw, 0, 0)) 3 rfl ?_
  refine wp_call rfl rfl rfl (ev_up (ev_gHas hC (nI v)) (by omega)) ?_
  refine wp_eq (f' := (15, [.ref 0, .int (nI 5), .int (nI v)], [.int (bI (isV (nI v) n))], MW A B F sw, 0, 0)) rfl ?_
  refine wp_go (f' := ((if ¬ (bI (isV (nI v) n)) = 0 then 21 else 18), [.ref 0, .int (nI 5), .int (nI v)], [], MW A B F sw, 0, 0)) 1 rfl ?_
  refine wp_ite (fun _ => ?_) (fun h9 => absurd (by rw [isV_t hn hv]; decide) h9)
  refine wp_go (f' := (26, [.ref 0, .int (nI 5), .int (nI v)], [.int (nI 5), .ref 7], MW A B F sw, 0, 0)) 3 rfl ?_
  refine wp_call rfl rfl rfl (ev_up hev (by omega)) ?_
  refine wp_eq (f' := (29, [.ref 0, .int (nI 5), .int (nI v)], [], MW A2 B F2 sw, 0, 0)) rfl ?_
  refine wp_go (f' := (35, [.ref 0, .int (nI 5), .int (nI v)], [.int (nI v), .int (nI 5), .ref 7], MW A2 B F2 sw, 0, 0)) 4 rfl ?_
  refine wp_call rfl rfl rfl (ev_up (ev_seenF5 hC9 hSP.2.2.2.1 hk0 hrow hrn hrv hne) (by omega)) ?_
  refine wp_eq (f' := (38, [.ref 0, .int (nI 5), .int (nI v)], [.int (nI (pastN nb (setR r k0) v))], MW A2 B F2 sw, 0, 0)) rfl ?_
  exact wp_iret rfl
theorem ev_kind_f1 {x : Int32} (hx : x < 0) : mv_Ev xs Ls 1 31 [.int x] (MW A B F sw) (some (.int (nI 0)), MW A B F sw, 0, 0) := by
  refine ev_of_wp rfl rfl rfl ?_
  refine wp_go (f' := ((if x < 0 then 14 else 4), [.int x], [], MW A B F sw, 0, 0)) 2 rfl ?_
  refine wp_ite (fun _ => ?_) (fun h9 => absurd hx h9)
  refine wp_go (f' := (15, [.int x], [.int (nI 0)], MW A B F sw, 0, 0)) 1 rfl ?_
  exact wp_zret rfl (by first | exact Or.inl rfl | exact Or.inr rfl)
theorem ev_kind_f2 {x : Int32} (hx : ¬ x < 0) (hx2 : nI 6 ≤ x) : mv_Ev xs Ls 1 31 [.int x] (MW A B F sw) (some (.int (nI 0)), MW A B F sw, 0, 0) := by
  refine ev_of_wp rfl rfl rfl ?_
  refine wp_go (f' := ((if x < 0 then 14 else 4), [.int x], [], MW A B F sw, 0, 0)) 2 rfl ?_
  refine wp_ite (fun h9 => absurd h9 hx) (fun _ => ?_)
  refine wp_go (f' := ((if (nI 6) ≤ x then 14 else 10), [.int x], [], MW A B F sw, 0, 0)) 3 rfl ?_
  refine wp_ite (fun _ => ?_) (fun h9 => absurd hx2 h9)
  refine wp_go (f' := (15, [.int x], [.int (nI 0)], MW A B F sw, 0, 0)) 1 rfl ?_
  exact wp_zret rfl (by first | exact Or.inl rfl | exact Or.inr rfl)
theorem ev_bWidth_f1 {x : Int32} (hx : x < 0) : mv_Ev xs Ls 2 30 [.ref 0, .int x] (MW A B F sw) (some (.int (-2)), MW A B F sw, 0, 0) := by
  refine ev_of_wp rfl rfl rfl ?_
  refine wp_go (f' := (1, [.ref 0, .int x], [.int x], MW A B F sw, 0, 0)) 1 rfl ?_
  refine wp_call rfl rfl rfl (ev_up (ev_kind_f1 hx) (by decide)) ?_
  refine wp_eq (f' := (4, [.ref 0, .int x], [.int (nI 0)], MW A B F sw, 0, 0)) rfl ?_
  refine wp_go (f' := ((if ¬ (nI 0) = 0 then 10 else 7), [.ref 0, .int x], [], MW A B F sw, 0, 0)) 1 rfl ?_
  refine wp_ite (fun h9 => absurd h9 (by decide)) (fun _ => ?_)
  refine wp_go (f' := (9, [.ref 0, .int x], [.int (-2)], MW A B F sw, 0, 0)) 1 rfl ?_
  exact wp_iret rfl
theorem ev_bWidth_f2 {x : Int32} (hx : ¬ x < 0) (hx2 : nI 6 ≤ x) : mv_Ev xs Ls 2 30 [.ref 0, .int x] (MW A B F sw) (some (.int (-2)), MW A B F sw, 0, 0) := by
  refine ev_of_wp rfl rfl rfl ?_
  refine wp_go (f' := (1, [.ref 0, .int x], [.int x], MW A B F sw, 0, 0)) 1 rfl ?_
  refine wp_call rfl rfl rfl (ev_up (ev_kind_f2 hx hx2) (by decide)) ?_
  refine wp_eq (f' := (4, [.ref 0, .int x], [.int (nI 0)], MW A B F sw, 0, 0)) rfl ?_
  refine wp_go (f' := ((if ¬ (nI 0) = 0 then 10 else 7), [.ref 0, .int x], [], MW A B F sw, 0, 0)) 1 rfl ?_
  refine wp_ite (fun h9 => absurd h9 (by decide)) (fun _ => ?_)
  refine wp_go (f' := (9, [.ref 0, .int x], [.int (-2)], MW A B F sw, 0, 0)) 1 rfl ?_
  exact wp_iret rfl
theorem ev_bOrder_f1 {x y : Int32} (hx : x < 0) : mv_Ev xs Ls 2 47 [.ref 0, .int x, .int y] (MW A B F sw) (some (.int (-2)), MW A B F sw, 0, 0) := by
  refine ev_of_wp rfl rfl rfl ?_
  refine wp_go (f' := (1, [.ref 0, .int x, .int y], [.int x], MW A B F sw, 0, 0)) 1 rfl ?_
  refine wp_call rfl rfl rfl (ev_up (ev_kind_f1 hx) (by decide)) ?_
  refine wp_eq (f' := (4, [.ref 0, .int x, .int y], [.int (nI 0)], MW A B F sw, 0, 0)) rfl ?_
  refine wp_go (f' := ((if ¬ (nI 0) = 0 then 10 else 7), [.ref 0, .int x, .int y], [], MW A B F sw, 0, 0)) 1 rfl ?_
  refine wp_ite (fun h9 => absurd h9 (by decide)) (fun _ => ?_)
  refine wp_go (f' := (9, [.ref 0, .int x, .int y], [.int (-2)], MW A B F sw, 0, 0)) 1 rfl ?_
  exact wp_iret rfl
theorem ev_bOrder_f2 {x y : Int32} (hx : ¬ x < 0) (hx2 : nI 6 ≤ x) : mv_Ev xs Ls 2 47 [.ref 0, .int x, .int y] (MW A B F sw) (some (.int (-2)), MW A B F sw, 0, 0) := by
  refine ev_of_wp rfl rfl rfl ?_
  refine wp_go (f' := (1, [.ref 0, .int x, .int y], [.int x], MW A B F sw, 0, 0)) 1 rfl ?_
  refine wp_call rfl rfl rfl (ev_up (ev_kind_f2 hx hx2) (by decide)) ?_
  refine wp_eq (f' := (4, [.ref 0, .int x, .int y], [.int (nI 0)], MW A B F sw, 0, 0)) rfl ?_
  refine wp_go (f' := ((if ¬ (nI 0) = 0 then 10 else 7), [.ref 0, .int x, .int y], [], MW A B F sw, 0, 0)) 1 rfl ?_
  refine wp_ite (fun h9 => absurd h9 (by decide)) (fun _ => ?_)
  refine wp_go (f' := (9, [.ref 0, .int x, .int y], [.int (-2)], MW A B F sw, 0, 0)) 1 rfl ?_
  exact wp_iret rfl
theorem ev_bSeen_f1 {x y : Int32} (hx : x < 0) : mv_Ev xs Ls 2 48 [.ref 0, .int x, .int y] (MW A B F sw) (some (.int (-2)), MW A B F sw, 0, 0) := by
  refine ev_of_wp rfl rfl rfl ?_
  refine wp_go (f' := (1, [.ref 0, .int x, .int y], [.int x], MW A B F sw, 0, 0)) 1 rfl ?_
  refine wp_call rfl rfl rfl (ev_up (ev_kind_f1 hx) (by decide)) ?_
  refine wp_eq (f' := (4, [.ref 0, .int x, .int y], [.int (nI 0)], MW A B F sw, 0, 0)) rfl ?_
  refine wp_go (f' := ((if (nI 0) = 0 then 18 else 7), [.ref 0, .int x, .int y], [], MW A B F sw, 0, 0)) 1 rfl ?_
  refine wp_ite (fun _ => ?_) (fun h9 => absurd (by decide) h9)
  refine wp_go (f' := (20, [.ref 0, .int x, .int y], [.int (-2)], MW A B F sw, 0, 0)) 1 rfl ?_
  exact wp_iret rfl
theorem ev_bSeen_f2 {x y : Int32} (hx : ¬ x < 0) (hx2 : nI 6 ≤ x) : mv_Ev xs Ls 2 48 [.ref 0, .int x, .int y] (MW A B F sw) (some (.int (-2)), MW A B F sw, 0, 0) := by
  refine ev_of_wp rfl rfl rfl ?_
  refine wp_go (f' := (1, [.ref 0, .int x, .int y], [.int x], MW A B F sw, 0, 0)) 1 rfl ?_
  refine wp_call rfl rfl rfl (ev_up (ev_kind_f2 hx hx2) (by decide)) ?_
  refine wp_eq (f' := (4, [.ref 0, .int x, .int y], [.int (nI 0)], MW A B F sw, 0, 0)) rfl ?_
  refine wp_go (f' := ((if (nI 0) = 0 then 18 else 7), [.ref 0, .int x, .int y], [], MW A B F sw, 0, 0)) 1 rfl ?_
  refine wp_ite (fun _ => ?_) (fun h9 => absurd (by decide) h9)
  refine wp_go (f' := (20, [.ref 0, .int x, .int y], [.int (-2)], MW A B F sw, 0, 0)) 1 rfl ?_
  exact wp_iret rfl
theorem ev_bOrder_n1_0 {y : Int32} (hy : y < 0) : mv_Ev xs Ls 2 47 [.ref 0, .int (nI 0), .int y] (MW A B F sw) (some (.int (-1)), MW A B F sw, 0, 0) := by
  refine ev_of_wp rfl rfl rfl ?_
  refine wp_go (f' := (1, [.ref 0, .int (nI 0), .int y], [.int (nI 0)], MW A B F sw, 0, 0)) 1 rfl ?_
  refine wp_call rfl rfl rfl (ev_up ev_kind0 (by decide)) ?_
  refine wp_eq (f' := (4, [.ref 0, .int (nI 0), .int y], [.int (nI 1)], MW A B F sw, 0, 0)) rfl ?_
  refine wp_go (f' := ((if ¬ (nI 1) = 0 then 10 else 7), [.ref 0, .int (nI 0), .int y], [], MW A B F sw, 0, 0)) 1 rfl ?_
  refine wp_ite (fun _ => ?_) (fun h9 => absurd (by decide) h9)
  refine wp_go (f' := ((if y < 0 then 25 else 14), [.ref 0, .int (nI 0), .int y], [], MW A B F sw, 0, 0)) 2 rfl ?_
  refine wp_ite (fun _ => ?_) (fun h9 => absurd hy h9)
  refine wp_go (f' := (26, [.ref 0, .int (nI 0), .int y], [.int (-1)], MW A B F sw, 0, 0)) 1 rfl ?_
  exact wp_iret rfl
theorem ev_bOrder_n2_0 (hC : CI A F n nb) {y : Int32} (hy : ¬ y < 0) (hy2 : ¬ y < nI n) : mv_Ev xs Ls 2 47 [.ref 0, .int (nI 0), .int y] (MW A B F sw) (some (.int (-1)), MW A B F sw, 0, 0) := by
  refine ev_of_wp rfl rfl rfl ?_
  refine wp_go (f' := (1, [.ref 0, .int (nI 0), .int y], [.int (nI 0)], MW A B F sw, 0, 0)) 1 rfl ?_
  refine wp_call rfl rfl rfl (ev_up ev_kind0 (by decide)) ?_
  refine wp_eq (f' := (4, [.ref 0, .int (nI 0), .int y], [.int (nI 1)], MW A B F sw, 0, 0)) rfl ?_
  refine wp_go (f' := ((if ¬ (nI 1) = 0 then 10 else 7), [.ref 0, .int (nI 0), .int y], [], MW A B F sw, 0, 0)) 1 rfl ?_
  refine wp_ite (fun _ => ?_) (fun h9 => absurd (by decide) h9)
  refine wp_go (f' := ((if y < 0 then 25 else 14), [.ref 0, .int (nI 0), .int y], [], MW A B F sw, 0, 0)) 2 rfl ?_
  refine wp_ite (fun h9 => absurd h9 hy) (fun _ => ?_)
  refine wp_go (f' := (22, [.ref 0, .int (nI 0), .int y], [.int (F 0), .int y], MW A B F sw, 0, 0)) 4 rfl ?_
  rw [hC.2.1]
  refine wp_go (f' := ((if y < (nI n) then 27 else 25), [.ref 0, .int (nI 0), .int y], [], MW A B F sw, 0, 0)) 1 rfl ?_
  refine wp_ite (fun h9 => absurd h9 hy2) (fun _ => ?_)
  refine wp_go (f' := (26, [.ref 0, .int (nI 0), .int y], [.int (-1)], MW A B F sw, 0, 0)) 1 rfl ?_
  exact wp_iret rfl
theorem ev_bSeen_v_0 (hC : CI A F n nb) {y : Int32} (hy : isV y n = false) : mv_Ev xs Ls 2 48 [.ref 0, .int (nI 0), .int y] (MW A B F sw) (some (.int (-2)), MW A B F sw, 0, 0) := by
  refine ev_of_wp rfl rfl rfl ?_
  refine wp_go (f' := (1, [.ref 0, .int (nI 0), .int y], [.int (nI 0)], MW A B F sw, 0, 0)) 1 rfl ?_
  refine wp_call rfl rfl rfl (ev_up ev_kind0 (by decide)) ?_
  refine wp_eq (f' := (4, [.ref 0, .int (nI 0), .int y], [.int (nI 1)], MW A B F sw, 0, 0)) rfl ?_
  refine wp_go (f' := ((if (nI 1) = 0 then 18 else 7), [.ref 0, .int (nI 0), .int y], [], MW A B F sw, 0, 0)) 1 rfl ?_
  refine wp_ite (fun h9 => absurd h9 (by decide)) (fun _ => ?_)
  refine wp_go (f' := (12, [.ref 0, .int (nI 0), .int y], [.int y, .ref 1], MW A B F sw, 0, 0)) 3 rfl ?_
  refine wp_call rfl rfl rfl (ev_up (ev_gHas hC y) (by decide)) ?_
  refine wp_eq (f' := (15, [.ref 0, .int (nI 0), .int y], [.int (bI (isV y n))], MW A B F sw, 0, 0)) rfl ?_
  refine wp_go (f' := ((if ¬ (bI (isV y n)) = 0 then 21 else 18), [.ref 0, .int (nI 0), .int y], [], MW A B F sw, 0, 0)) 1 rfl ?_
  refine wp_ite (fun h9 => absurd h9 (by rw [hy]; decide)) (fun _ => ?_)
  refine wp_go (f' := (20, [.ref 0, .int (nI 0), .int y], [.int (-2)], MW A B F sw, 0, 0)) 1 rfl ?_
  exact wp_iret rfl
theorem ev_bOrder_n1_1 {y : Int32} (hy : y < 0) : mv_Ev xs Ls 2 47 [.ref 0, .int (nI 1), .int y] (MW A B F sw) (some (.int (-1)), MW A B F sw, 0, 0) := by
  refine ev_of_wp rfl rfl rfl ?_
  refine wp_go (f' := (1, [.ref 0, .int (nI 1), .int y], [.int (nI 1)], MW A B F sw, 0, 0)) 1 rfl ?_
  refine wp_call rfl rfl rfl (ev_up ev_kind1 (by decide)) ?_
  refine wp_eq (f' := (4, [.ref 0, .int (nI 1), .int y], [.int (nI 1)], MW A B F sw, 0, 0)) rfl ?_
  refine wp_go (f' := ((if ¬ (nI 1) = 0 then 10 else 7), [.ref 0, .int (nI 1), .int y], [], MW A B F sw, 0, 0)) 1 rfl ?_
  refine wp_ite (fun _ => ?_) (fun h9 => absurd (by decide) h9)
  refine wp_go (f' := ((if y < 0 then 25 else 14), [.ref 0, .int (nI 1), .int y], [], MW A B F sw, 0, 0)) 2 rfl ?_
  refine wp_ite (fun _ => ?_) (fun h9 => absurd hy h9)
  refine wp_go (f' := (26, [.ref 0, .int (nI 1), .int y], [.int (-1)], MW A B F sw, 0, 0)) 1 rfl ?_
  exact wp_iret rfl
theorem ev_bOrder_n2_1 (hC : CI A F n nb) {y : Int32} (hy : ¬ y < 0) (hy2 : ¬ y < nI n) : mv_Ev xs Ls 2 47 [.ref 0, .int (nI 1), .int y] (MW A B F sw) (some (.int (-1)), MW A B F sw, 0, 0) := by
  refine ev_of_wp rfl rfl rfl ?_
  refine wp_go (f' := (1, [.ref 0, .int (nI 1), .int y], [.int (nI 1)], MW A B F sw, 0, 0)) 1 rfl ?_
  refine wp_call rfl rfl rfl (ev_up ev_kind1 (by decide)) ?_
  refine wp_eq (f' := (4, [.ref 0, .int (nI 1), .int y], [.int (nI 1)], MW A B F sw, 0, 0)) rfl ?_
  refine wp_go (f' := ((if ¬ (nI 1) = 0 then 10 else 7), [.ref 0, .int (nI 1), .int y], [], MW A B F sw, 0, 0)) 1 rfl ?_
  refine wp_ite (fun _ => ?_) (fun h9 => absurd (by decide) h9)
  refine wp_go (f' := ((if y < 0 then 25 else 14), [.ref 0, .int (nI 1), .int y], [], MW A B F sw, 0, 0)) 2 rfl ?_
  refine wp_ite (fun h9 => absurd h9 hy) (fun _ => ?_)
  refine wp_go (f' := (22, [.ref 0, .int (nI 1), .int y], [.int (F 0), .int y], MW A B F sw, 0, 0)) 4 rfl ?_
  rw [hC.2.1]
  refine wp_go (f' := ((if y < (nI n) then 27 else 25), [.ref 0, .int (nI 1), .int y], [], MW A B F sw, 0, 0)) 1 rfl ?_
  refine wp_ite (fun h9 => absurd h9 hy2) (fun _ => ?_)
  refine wp_go (f' := (26, [.ref 0, .int (nI 1), .int y], [.int (-1)], MW A B F sw, 0, 0)) 1 rfl ?_
  exact wp_iret rfl
theorem ev_bSeen_v_1 (hC : CI A F n nb) {y : Int32} (hy : isV y n = false) : mv_Ev xs Ls 2 48 [.ref 0, .int (nI 1), .int y] (MW A B F sw) (some (.int (-2)), MW A B F sw, 0, 0) := by
  refine ev_of_wp rfl rfl rfl ?_
  refine wp_go (f' := (1, [.ref 0, .int (nI 1), .int y], [.int (nI 1)], MW A B F sw, 0, 0)) 1 rfl ?_
  refine wp_call rfl rfl rfl (ev_up ev_kind1 (by decide)) ?_
  refine wp_eq (f' := (4, [.ref 0, .int (nI 1), .int y], [.int (nI 1)], MW A B F sw, 0, 0)) rfl ?_
  refine wp_go (f' := ((if (nI 1) = 0 then 18 else 7), [.ref 0, .int (nI 1), .int y], [], MW A B F sw, 0, 0)) 1 rfl ?_
  refine wp_ite (fun h9 => absurd h9 (by decide)) (fun _ => ?_)
  refine wp_go (f' := (12, [.ref 0, .int (nI 1), .int y], [.int y, .ref 1], MW A B F sw, 0, 0)) 3 rfl ?_
  refine wp_call rfl rfl rfl (ev_up (ev_gHas hC y) (by decide)) ?_
  refine wp_eq (f' := (15, [.ref 0, .int (nI 1), .int y], [.int (bI (isV y n))], MW A B F sw, 0, 0)) rfl ?_
  refine wp_go (f' := ((if ¬ (bI (isV y n)) = 0 then 21 else 18), [.ref 0, .int (nI 1), .int y], [], MW A B F sw, 0, 0)) 1 rfl ?_
  refine wp_ite (fun h9 => absurd h9 (by rw [hy]; decide)) (fun _ => ?_)
  refine wp_go (f' := (20, [.ref 0, .int (nI 1), .int y], [.int (-2)], MW A B F sw, 0, 0)) 1 rfl ?_
  exact wp_iret rfl
theorem ev_bOrder_n1_2 {y : Int32} (hy : y < 0) : mv_Ev xs Ls 2 47 [.ref 0, .int (nI 2), .int y] (MW A B F sw) (some (.int (-1)), MW A B F sw, 0, 0) := by
  refine ev_of_wp rfl rfl rfl ?_
  refine wp_go (f' := (1, [.ref 0, .int (nI 2), .int y], [.int (nI 2)], MW A B F sw, 0, 0)) 1 rfl ?_
  refine wp_call rfl rfl rfl (ev_up ev_kind2 (by decide)) ?_
  refine wp_eq (f' := (4, [.ref 0, .int (nI 2), .int y], [.int (nI 1)], MW A B F sw, 0, 0)) rfl ?_
  refine wp_go (f' := ((if ¬ (nI 1) = 0 then 10 else 7), [.ref 0, .int (nI 2), .int y], [], MW A B F sw, 0, 0)) 1 rfl ?_
  refine wp_ite (fun _ => ?_) (fun h9 => absurd (by decide) h9)
  refine wp_go (f' := ((if y < 0 then 25 else 14), [.ref 0, .int (nI 2), .int y], [], MW A B F sw, 0, 0)) 2 rfl ?_
  refine wp_ite (fun _ => ?_) (fun h9 => absurd hy h9)
  refine wp_go (f' := (26, [.ref 0, .int (nI 2), .int y], [.int (-1)], MW A B F sw, 0, 0)) 1 rfl ?_
  exact wp_iret rfl
theorem ev_bOrder_n2_2 (hC : CI A F n nb) {y : Int32} (hy : ¬ y < 0) (hy2 : ¬ y < nI n) : mv_Ev xs Ls 2 47 [.ref 0, .int (nI 2), .int y] (MW A B F sw) (some (.int (-1)), MW A B F sw, 0, 0) := by
  refine ev_of_wp rfl rfl rfl ?_
  refine wp_go (f' := (1, [.ref 0, .int (nI 2), .int y], [.int (nI 2)], MW A B F sw, 0, 0)) 1 rfl ?_
  refine wp_call rfl rfl rfl (ev_up ev_kind2 (by decide)) ?_
  refine wp_eq (f' := (4, [.ref 0, .int (nI 2), .int y], [.int (nI 1)], MW A B F sw, 0, 0)) rfl ?_
  refine wp_go (f' := ((if ¬ (nI 1) = 0 then 10 else 7), [.ref 0, .int (nI 2), .int y], [], MW A B F sw, 0, 0)) 1 rfl ?_
  refine wp_ite (fun _ => ?_) (fun h9 => absurd (by decide) h9)
  refine wp_go (f' := ((if y < 0 then 25 else 14), [.ref 0, .int (nI 2), .int y], [], MW A B F sw, 0, 0)) 2 rfl ?_
  refine wp_ite (fun h9 => absurd h9 hy) (fun _ => ?_)
  refine wp_go (f' := (22, [.ref 0, .int (nI 2), .int y], [.int (F 0), .int y], MW A B F sw, 0, 0)) 4 rfl ?_
  rw [hC.2.1]
  refine wp_go (f' := ((if y < (nI n) then 27 else 25), [.ref 0, .int (nI 2), .int y], [], MW A B F sw, 0, 0)) 1 rfl ?_
  refine wp_ite (fun h9 => absurd h9 hy2) (fun _ => ?_)
  refine wp_go (f' := (26, [.ref 0, .int (nI 2), .int y], [.int (-1)], MW A B F sw, 0, 0)) 1 rfl ?_
  exact wp_iret rfl
theorem ev_bSeen_v_2 (hC : CI A F n nb) {y : Int32} (hy : isV y n = false) : mv_Ev xs Ls 2 48 [.ref 0, .int (nI 2), .int y] (MW A B F sw) (some (.int (-2)), MW A B F sw, 0, 0) := by
  refine ev_of_wp rfl rfl rfl ?_
  refine wp_go (f' := (1, [.ref 0, .int (nI 2), .int y], [.int (nI 2)], MW A B F sw, 0, 0)) 1 rfl ?_
  refine wp_call rfl rfl rfl (ev_up ev_kind2 (by decide)) ?_
  refine wp_eq (f' := (4, [.ref 0, .int (nI 2), .int y], [.int (nI 1)], MW A B F sw, 0, 0)) rfl ?_
  refine wp_go (f' := ((if (nI 1) = 0 then 18 else 7), [.ref 0, .int (nI 2), .int y], [], MW A B F sw, 0, 0)) 1 rfl ?_
  refine wp_ite (fun h9 => absurd h9 (by decide)) (fun _ => ?_)
  refine wp_go (f' := (12, [.ref 0, .int (nI 2), .int y], [.int y, .ref 1], MW A B F sw, 0, 0)) 3 rfl ?_
  refine wp_call rfl rfl rfl (ev_up (ev_gHas hC y) (by decide)) ?_
  refine wp_eq (f' := (15, [.ref 0, .int (nI 2), .int y], [.int (bI (isV y n))], MW A B F sw, 0, 0)) rfl ?_
  refine wp_go (f' := ((if ¬ (bI (isV y n)) = 0 then 21 else 18), [.ref 0, .int (nI 2), .int y], [], MW A B F sw, 0, 0)) 1 rfl ?_
  refine wp_ite (fun h9 => absurd h9 (by rw [hy]; decide)) (fun _ => ?_)
  refine wp_go (f' := (20, [.ref 0, .int (nI 2), .int y], [.int (-2)], MW A B F sw, 0, 0)) 1 rfl ?_
  exact wp_iret rfl
theorem ev_bOrder_n1_3 {y : Int32} (hy : y < 0) : mv_Ev xs Ls 2 47 [.ref 0, .int (nI 3), .int y] (MW A B F sw) (some (.int (-1)), MW A B F sw, 0, 0) := by
  refine ev_of_wp rfl rfl rfl ?_
  refine wp_go (f' := (1, [.ref 0, .int (nI 3), .int y], [.int (nI 3)], MW A B F sw, 0, 0)) 1 rfl ?_
  refine wp_call rfl rfl rfl (ev_up ev_kind3 (by decide)) ?_
  refine wp_eq (f' := (4, [.ref 0, .int (nI 3), .int y], [.int (nI 1)], MW A B F sw, 0, 0)) rfl ?_
  refine wp_go (f' := ((if ¬ (nI 1) = 0 then 10 else 7), [.ref 0, .int (nI 3), .int y], [], MW A B F sw, 0, 0)) 1 rfl ?_
  refine wp_ite (fun _ => ?_) (fun h9 => absurd (by decide) h9)
  refine wp_go (f' := ((if y < 0 then 25 else 14), [.ref 0, .int (nI 3), .int y], [], MW A B F sw, 0, 0)) 2 rfl ?_
  refine wp_ite (fun _ => ?_) (fun h9 => absurd hy h9)
  refine wp_go (f' := (26, [.ref 0, .int (nI 3), .int y], [.int (-1)], MW A B F sw, 0, 0)) 1 rfl ?_
  exact wp_iret rfl
theorem ev_bOrder_n2_3 (hC : CI A F n nb) {y : Int32} (hy : ¬ y < 0) (hy2 : ¬ y < nI n) : mv_Ev xs Ls 2 47 [.ref 0, .int (nI 3), .int y] (MW A B F sw) (some (.int (-1)), MW A B F sw, 0, 0) := by
  refine ev_of_wp rfl rfl rfl ?_
  refine wp_go (f' := (1, [.ref 0, .int (nI 3), .int y], [.int (nI 3)], MW A B F sw, 0, 0)) 1 rfl ?_
  refine wp_call rfl rfl rfl (ev_up ev_kind3 (by decide)) ?_
  refine wp_eq (f' := (4, [.ref 0, .int (nI 3), .int y], [.int (nI 1)], MW A B F sw, 0, 0)) rfl ?_
  refine wp_go (f' := ((if ¬ (nI 1) = 0 then 10 else 7), [.ref 0, .int (nI 3), .int y], [], MW A B F sw, 0, 0)) 1 rfl ?_
  refine wp_ite (fun _ => ?_) (fun h9 => absurd (by decide) h9)
  refine wp_go (f' := ((if y < 0 then 25 else 14), [.ref 0, .int (nI 3), .int y], [], MW A B F sw, 0, 0)) 2 rfl ?_
  refine wp_ite (fun h9 => absurd h9 hy) (fun _ => ?_)
  refine wp_go (f' := (22, [.ref 0, .int (nI 3), .int y], [.int (F 0), .int y], MW A B F sw, 0, 0)) 4 rfl ?_
  rw [hC.2.1]
  refine wp_go (f' := ((if y < (nI n) then 27 else 25), [.ref 0, .int (nI 3), .int y], [], MW A B F sw, 0, 0)) 1 rfl ?_
  refine wp_ite (fun h9 => absurd h9 hy2) (fun _ => ?_)
  refine wp_go (f' := (26, [.ref 0, .int (nI 3), .int y], [.int (-1)], MW A B F sw, 0, 0)) 1 rfl ?_
  exact wp_iret rfl
theorem ev_bSeen_v_3 (hC : CI A F n nb) {y : Int32} (hy : isV y n = false) : mv_Ev xs Ls 2 48 [.ref 0, .int (nI 3), .int y] (MW A B F sw) (some (.int (-2)), MW A B F sw, 0, 0) := by
  refine ev_of_wp rfl rfl rfl ?_
  refine wp_go (f' := (1, [.ref 0, .int (nI 3), .int y], [.int (nI 3)], MW A B F sw, 0, 0)) 1 rfl ?_
  refine wp_call rfl rfl rfl (ev_up ev_kind3 (by decide)) ?_
  refine wp_eq (f' := (4, [.ref 0, .int (nI 3), .int y], [.int (nI 1)], MW A B F sw, 0, 0)) rfl ?_
  refine wp_go (f' := ((if (nI 1) = 0 then 18 else 7), [.ref 0, .int (nI 3), .int y], [], MW A B F sw, 0, 0)) 1 rfl ?_
  refine wp_ite (fun h9 => absurd h9 (by decide)) (fun _ => ?_)
  refine wp_go (f' := (12, [.ref 0, .int (nI 3), .int y], [.int y, .ref 1], MW A B F sw, 0, 0)) 3 rfl ?_
  refine wp_call rfl rfl rfl (ev_up (ev_gHas hC y) (by decide)) ?_
  refine wp_eq (f' := (15, [.ref 0, .int (nI 3), .int y], [.int (bI (isV y n))], MW A B F sw, 0, 0)) rfl ?_
  refine wp_go (f' := ((if ¬ (bI (isV y n)) = 0 then 21 else 18), [.ref 0, .int (nI 3), .int y], [], MW A B F sw, 0, 0)) 1 rfl ?_
  refine wp_ite (fun h9 => absurd h9 (by rw [hy]; decide)) (fun _ => ?_)
  refine wp_go (f' := (20, [.ref 0, .int (nI 3), .int y], [.int (-2)], MW A B F sw, 0, 0)) 1 rfl ?_
  exact wp_iret rfl
theorem ev_bOrder_n1_4 {y : Int32} (hy : y < 0) : mv_Ev xs Ls 2 47 [.ref 0, .int (nI 4), .int y] (MW A B F sw) (some (.int (-1)), MW A B F sw, 0, 0) := by
  refine ev_of_wp rfl rfl rfl ?_
  refine wp_go (f' := (1, [.ref 0, .int (nI 4), .int y], [.int (nI 4)], MW A B F sw, 0, 0)) 1 rfl ?_
  refine wp_call rfl rfl rfl (ev_up ev_kind4 (by decide)) ?_
  refine wp_eq (f' := (4, [.ref 0, .int (nI 4), .int y], [.int (nI 1)], MW A B F sw, 0, 0)) rfl ?_
  refine wp_go (f' := ((if ¬ (nI 1) = 0 then 10 else 7), [.ref 0, .int (nI 4), .int y], [], MW A B F sw, 0, 0)) 1 rfl ?_
  refine wp_ite (fun _ => ?_) (fun h9 => absurd (by decide) h9)
  refine wp_go (f' := ((if y < 0 then 25 else 14), [.ref 0, .int (nI 4), .int y], [], MW A B F sw, 0, 0)) 2 rfl ?_
  refine wp_ite (fun _ => ?_) (fun h9 => absurd hy h9)
  refine wp_go (f' := (26, [.ref 0, .int (nI 4), .int y], [.int (-1)], MW A B F sw, 0, 0)) 1 rfl ?_
  exact wp_iret rfl
theorem ev_bOrder_n2_4 (hC : CI A F n nb) {y : Int32} (hy : ¬ y < 0) (hy2 : ¬ y < nI n) : mv_Ev xs Ls 2 47 [.ref 0, .int (nI 4), .int y] (MW A B F sw) (some (.int (-1)), MW A B F sw, 0, 0) := by
  refine ev_of_wp rfl rfl rfl ?_
  refine wp_go (f' := (1, [.ref 0, .int (nI 4), .int y], [.int (nI 4)], MW A B F sw, 0, 0)) 1 rfl ?_
  refine wp_call rfl rfl rfl (ev_up ev_kind4 (by decide)) ?_
  refine wp_eq (f' := (4, [.ref 0, .int (nI 4), .int y], [.int (nI 1)], MW A B F sw, 0, 0)) rfl ?_
  refine wp_go (f' := ((if ¬ (nI 1) = 0 then 10 else 7), [.ref 0, .int (nI 4), .int y], [], MW A B F sw, 0, 0)) 1 rfl ?_
  refine wp_ite (fun _ => ?_) (fun h9 => absurd (by decide) h9)
  refine wp_go (f' := ((if y < 0 then 25 else 14), [.ref 0, .int (nI 4), .int y], [], MW A B F sw, 0, 0)) 2 rfl ?_
  refine wp_ite (fun h9 => absurd h9 hy) (fun _ => ?_)
  refine wp_go (f' := (22, [.ref 0, .int (nI 4), .int y], [.int (F 0), .int y], MW A B F sw, 0, 0)) 4 rfl ?_
  rw [hC.2.1]
  refine wp_go (f' := ((if y < (nI n) then 27 else 25), [.ref 0, .int (nI 4), .int y], [], MW A B F sw, 0, 0)) 1 rfl ?_
  refine wp_ite (fun h9 => absurd h9 hy2) (fun _ => ?_)
  refine wp_go (f' := (26, [.ref 0, .int (nI 4), .int y], [.int (-1)], MW A B F sw, 0, 0)) 1 rfl ?_
  exact wp_iret rfl
theorem ev_bSeen_v_4 (hC : CI A F n nb) {y : Int32} (hy : isV y n = false) : mv_Ev xs Ls 2 48 [.ref 0, .int (nI 4), .int y] (MW A B F sw) (some (.int (-2)), MW A B F sw, 0, 0) := by
  refine ev_of_wp rfl rfl rfl ?_
  refine wp_go (f' := (1, [.ref 0, .int (nI 4), .int y], [.int (nI 4)], MW A B F sw, 0, 0)) 1 rfl ?_
  refine wp_call rfl rfl rfl (ev_up ev_kind4 (by decide)) ?_
  refine wp_eq (f' := (4, [.ref 0, .int (nI 4), .int y], [.int (nI 1)], MW A B F sw, 0, 0)) rfl ?_
  refine wp_go (f' := ((if (nI 1) = 0 then 18 else 7), [.ref 0, .int (nI 4), .int y], [], MW A B F sw, 0, 0)) 1 rfl ?_
  refine wp_ite (fun h9 => absurd h9 (by decide)) (fun _ => ?_)
  refine wp_go (f' := (12, [.ref 0, .int (nI 4), .int y], [.int y, .ref 1], MW A B F sw, 0, 0)) 3 rfl ?_
  refine wp_call rfl rfl rfl (ev_up (ev_gHas hC y) (by decide)) ?_
  refine wp_eq (f' := (15, [.ref 0, .int (nI 4), .int y], [.int (bI (isV y n))], MW A B F sw, 0, 0)) rfl ?_
  refine wp_go (f' := ((if ¬ (bI (isV y n)) = 0 then 21 else 18), [.ref 0, .int (nI 4), .int y], [], MW A B F sw, 0, 0)) 1 rfl ?_
  refine wp_ite (fun h9 => absurd h9 (by rw [hy]; decide)) (fun _ => ?_)
  refine wp_go (f' := (20, [.ref 0, .int (nI 4), .int y], [.int (-2)], MW A B F sw, 0, 0)) 1 rfl ?_
  exact wp_iret rfl
theorem ev_bOrder_n1_5 {y : Int32} (hy : y < 0) : mv_Ev xs Ls 2 47 [.ref 0, .int (nI 5), .int y] (MW A B F sw) (some (.int (-1)), MW A B F sw, 0, 0) := by
  refine ev_of_wp rfl rfl rfl ?_
  refine wp_go (f' := (1, [.ref 0, .int (nI 5), .int y], [.int (nI 5)], MW A B F sw, 0, 0)) 1 rfl ?_
  refine wp_call rfl rfl rfl (ev_up ev_kind5 (by decide)) ?_
  refine wp_eq (f' := (4, [.ref 0, .int (nI 5), .int y], [.int (nI 1)], MW A B F sw, 0, 0)) rfl ?_
  refine wp_go (f' := ((if ¬ (nI 1) = 0 then 10 else 7), [.ref 0, .int (nI 5), .int y], [], MW A B F sw, 0, 0)) 1 rfl ?_
  refine wp_ite (fun _ => ?_) (fun h9 => absurd (by decide) h9)
  refine wp_go (f' := ((if y < 0 then 25 else 14), [.ref 0, .int (nI 5), .int y], [], MW A B F sw, 0, 0)) 2 rfl ?_
  refine wp_ite (fun _ => ?_) (fun h9 => absurd hy h9)
  refine wp_go (f' := (26, [.ref 0, .int (nI 5), .int y], [.int (-1)], MW A B F sw, 0, 0)) 1 rfl ?_
  exact wp_iret rfl
theorem ev_bOrder_n2_5 (hC : CI A F n nb) {y : Int32} (hy : ¬ y < 0) (hy2 : ¬ y < nI n) : mv_Ev xs Ls 2 47 [.ref 0, .int (nI 5), .int y] (MW A B F sw) (some (.int (-1)), MW A B F sw, 0, 0) := by
  refine ev_of_wp rfl rfl rfl ?_
  refine wp_go (f' := (1, [.ref 0, .int (nI 5), .int y], [.int (nI 5)], MW A B F sw, 0, 0)) 1 rfl ?_
  refine wp_call rfl rfl rfl (ev_up ev_kind5 (by decide)) ?_
  refine wp_eq (f' := (4, [.ref 0, .int (nI 5), .int y], [.int (nI 1)], MW A B F sw, 0, 0)) rfl ?_
  refine wp_go (f' := ((if ¬ (nI 1) = 0 then 10 else 7), [.ref 0, .int (nI 5), .int y], [], MW A B F sw, 0, 0)) 1 rfl ?_
  refine wp_ite (fun _ => ?_) (fun h9 => absurd (by decide) h9)
  refine wp_go (f' := ((if y < 0 then 25 else 14), [.ref 0, .int (nI 5), .int y], [], MW A B F sw, 0, 0)) 2 rfl ?_
  refine wp_ite (fun h9 => absurd h9 hy) (fun _ => ?_)
  refine wp_go (f' := (22, [.ref 0, .int (nI 5), .int y], [.int (F 0), .int y], MW A B F sw, 0, 0)) 4 rfl ?_
  rw [hC.2.1]
  refine wp_go (f' := ((if y < (nI n) then 27 else 25), [.ref 0, .int (nI 5), .int y], [], MW A B F sw, 0, 0)) 1 rfl ?_
  refine wp_ite (fun h9 => absurd h9 hy2) (fun _ => ?_)
  refine wp_go (f' := (26, [.ref 0, .int (nI 5), .int y], [.int (-1)], MW A B F sw, 0, 0)) 1 rfl ?_
  exact wp_iret rfl
theorem ev_bSeen_v_5 (hC : CI A F n nb) {y : Int32} (hy : isV y n = false) : mv_Ev xs Ls 2 48 [.ref 0, .int (nI 5), .int y] (MW A B F sw) (some (.int (-2)), MW A B F sw, 0, 0) := by
  refine ev_of_wp rfl rfl rfl ?_
  refine wp_go (f' := (1, [.ref 0, .int (nI 5), .int y], [.int (nI 5)], MW A B F sw, 0, 0)) 1 rfl ?_
  refine wp_call rfl rfl rfl (ev_up ev_kind5 (by decide)) ?_
  refine wp_eq (f' := (4, [.ref 0, .int (nI 5), .int y], [.int (nI 1)], MW A B F sw, 0, 0)) rfl ?_
  refine wp_go (f' := ((if (nI 1) = 0 then 18 else 7), [.ref 0, .int (nI 5), .int y], [], MW A B F sw, 0, 0)) 1 rfl ?_
  refine wp_ite (fun h9 => absurd h9 (by decide)) (fun _ => ?_)
  refine wp_go (f' := (12, [.ref 0, .int (nI 5), .int y], [.int y, .ref 1], MW A B F sw, 0, 0)) 3 rfl ?_
  refine wp_call rfl rfl rfl (ev_up (ev_gHas hC y) (by decide)) ?_
  refine wp_eq (f' := (15, [.ref 0, .int (nI 5), .int y], [.int (bI (isV y n))], MW A B F sw, 0, 0)) rfl ?_
  refine wp_go (f' := ((if ¬ (bI (isV y n)) = 0 then 21 else 18), [.ref 0, .int (nI 5), .int y], [], MW A B F sw, 0, 0)) 1 rfl ?_
  refine wp_ite (fun h9 => absurd h9 (by rw [hy]; decide)) (fun _ => ?_)
  refine wp_go (f' := (20, [.ref 0, .int (nI 5), .int y], [.int (-2)], MW A B F sw, 0, 0)) 1 rfl ?_
  exact wp_iret rfl
end CC
