/-- a cost and what comes behind it -/
def comb (kind c d : Nat) : Nat := if kind = 4 then c + d else if c ≤ d then d else c
/-- one more vertex behind s: the least so far -/
def bbS (n : Nat) (nb : Nat → Nat) (kind s : Nat) (T : Nat → Nat) : Nat → Nat → Nat := fun v m => if s.testBit v then m else if comb kind (costN n nb kind s v) (T (s ||| 2 ^ v)) < m then comb kind (costN n nb kind s v) (T (s ||| 2 ^ v)) else m
def bbF (n : Nat) (nb : Nat → Nat) (kind : Nat) : Nat → Nat → Nat
  | 0, _ => 0
  | f + 1, s => forN (bbS n nb kind s (bbF n nb kind f)) n (if s = 2 ^ n - 1 then 0 else 1000)
/-- the least cost of what comes behind s -/
def bbN (n : Nat) (nb : Nat → Nat) (kind s : Nat) : Nat := bbF n nb kind (2 ^ n) s
theorem forN_congr {α : Type} {f g : Nat → α → α} {n : Nat} (h : ∀ k, k < n → ∀ a, f k a = g k a) (a : α) : ∀ j, j ≤ n → forN f j a = forN g j a
  | 0, _ => rfl
  | j + 1, hj => by simp only [forN]; rw [forN_congr h a j (by omega), h j (by omega)]
theorem or_gt {s k : Nat} (h : s.testBit k = false) : s < s ||| 2 ^ k := by
  refine Nat.lt_of_le_of_ne Nat.left_le_or (fun e => ?_)
  have := congrArg (fun x : Nat => x.testBit k) e
  simp [h, Nat.testBit_or, Nat.testBit_two_pow_self] at this
theorem or_ltn {s k n : Nat} (hs : s < 2 ^ n) (hk : k < n) : s ||| 2 ^ k < 2 ^ n := Nat.or_lt_two_pow hs (Nat.pow_lt_pow_right (by omega) hk)
theorem bbF_fuel {n : Nat} {nb : Nat → Nat} {kind : Nat} : ∀ (f g s : Nat), s < 2 ^ n → 2 ^ n ≤ s + f → 2 ^ n ≤ s + g → bbF n nb kind f s = bbF n nb kind g s
  | 0, g, s, hs, h1, h2 => by omega
  | f + 1, 0, s, hs, h1, h2 => by omega
  | f + 1, g + 1, s, hs, h1, h2 => by
    simp only [bbF]
    refine forN_congr (fun v hv m => ?_) _ n (Nat.le_refl _)
    unfold bbS
    cases hb : s.testBit v with
    | true => rfl
    | false =>
      have h3 := or_gt hb
      have h4 := or_ltn hs hv
      rw [bbF_fuel f g (s ||| 2 ^ v) h4 (by omega) (by omega)]
theorem bbN_eq {n : Nat} {nb : Nat → Nat} {kind s : Nat} (hs : s < 2 ^ n) : bbN n nb kind s = forN (bbS n nb kind s (bbN n nb kind)) n (if s = 2 ^ n - 1 then 0 else 1000) := by
  have hp1 : 1 ≤ 2 ^ n := Nat.one_le_two_pow
  obtain ⟨f, hf⟩ : ∃ f, 2 ^ n = f + 1 := ⟨2 ^ n - 1, by omega⟩
  have e : bbN n nb kind s = bbF n nb kind (f + 1) s := by unfold bbN; rw [hf]
  rw [e]
  simp only [bbF]
  refine forN_congr (fun v hv m => ?_) _ n (Nat.le_refl _)
  unfold bbS
  cases hb : s.testBit v with
  | true => rfl
  | false =>
    have h3 := or_gt hb
    have h4 := or_ltn hs hv
    unfold bbN
    rw [bbF_fuel f (2 ^ n) (s ||| 2 ^ v) h4 (by omega) (by omega)]
theorem bbN_le {n : Nat} {nb : Nat → Nat} {kind s : Nat} (hs : s < 2 ^ n) : bbN n nb kind s ≤ 1000 := by
  rw [bbN_eq hs]
  refine forN_inv (I := fun _ (m : Nat) => m ≤ 1000) (by split <;> omega) (fun k m hk hm => ?_) n (Nat.le_refl _)
  unfold bbS
  split
  · exact hm
  · split <;> omega
section MM
variable {xs : Nat → Int32} {Ls : Nat} {A : Nat → Nat → Int32} {B : Nat → Nat → Int64} {F : Nat → Int32} {sw : Bool} {n : Nat} {nb : Nat → Nat}
theorem lp_tell (hM : MI A F n nb) {kind : Nat} (hkd : kind = 0 ∨ kind = 1 ∨ kind = 3 ∨ kind = 4) {s : Nat} (hs : s < 2 ^ n) {f : Nat → Int32} (hf : ∀ j, s < j → j < 2 ^ n → f j = nI (bbN n nb kind j)) {m0 : Nat} (hm0 : m0 ≤ 1000) {r : mv_R} (hex : ∀ (d5 d6 d7 : Value), forN (bbS n nb kind s (bbN n nb kind)) n m0 ≤ 1000 → mv_Wp xs Ls 3 6 false none mv_c114 (28, [.ref 28, .int (nI kind), .int (nI s), .int (nI (forN (bbS n nb kind s (bbN n nb kind)) n m0)), .int (nI n), d5, d6, d7], [], MW (upA A 31 f) B F sw, 0, 0) r) (d5 d6 d7 : Value) : mv_Wp xs Ls 3 6 false none mv_c114 (28, [.ref 28, .int (nI kind), .int (nI s), .int (nI m0), .int (nI 0), d5, d6, d7], [], MW (upA A 31 f) B F sw, 0, 0) r := by
  have hn := hM.1
  have hp := pow10 hn
  have hp1 : 1 ≤ 2 ^ n := Nat.one_le_two_pow
  have hal := all_lt hn
  have hM31 : MI (upA A 31 f) F n nb := hM
  have hk4 : kind ≤ 4 := by omega
  refine for_ind (P := fun (k m : Nat) => m ≤ 1000 → ∀ (d5 d6 d7 : Value), mv_Wp xs Ls 3 6 false none mv_c114 (28, [.ref 28, .int (nI kind), .int (nI s), .int (nI m), .int (nI k), d5, d6, d7], [], MW (upA A 31 f) B F sw, 0, 0) r) (f := bbS n nb kind s (bbN n nb kind)) (n := n) ?_ n m0 (Nat.le_refl _) ?_ hm0 d5 d6 d7
  · intro k m hk ih hm d5 d6 d7
    refine wp_go (f' := (34, [.ref 28, .int (nI kind), .int (nI s), .int (nI m), .int (nI k), d5, d6, d7], [.int (F 6), .int (nI k)], MW (upA A 31 f) B F sw, 0, 0)) 3 rfl ?_
    rw [hM.2.1]
    refine wp_go (f' := ((if (nI n) ≤ (nI k) then 117 else 37), [.ref 28, .int (nI kind), .int (nI s), .int (nI m), .int (nI k), d5, d6, d7], [], MW (upA A 31 f) B F sw, 0, 0)) 1 rfl ?_
    refine wp_ite (fun h9 => absurd h9 (nI_ge hk (by omega))) (fun _ => ?_)
    refine wp_go (f' := (43, [.ref 28, .int (nI kind), .int (nI s), .int (nI m), .int (nI k), d5, d6, d7], [.int (((nI s) >>> ((nI k) &&& 31)) &&& (nI 1))], MW (upA A 31 f) B F sw, 0, 0)) 5 rfl ?_
    rw [bx_bit (by omega) (by omega)]
    refine wp_go (f' := ((if ¬ (bI (s.testBit k)) = 0 then 111 else 46), [.ref 28, .int (nI kind), .int (nI s), .int (nI m), .int (nI k), d5, d6, d7], [], MW (upA A 31 f) B F sw, 0, 0)) 1 rfl ?_
    refine wp_ite (fun h1 => ?_) (fun h1 => ?_)
    · have h1 := bI_n0 h1
      refine wp_go (f' := (114, [.ref 28, .int (nI kind), .int (nI s), .int (nI m), .int ((nI k) + 1), d5, d6, d7], [], MW (upA A 31 f) B F sw, 0, 0)) 1 rfl ?_
      rw [nI_1]
      refine wp_go (f' := (28, [.ref 28, .int (nI kind), .int (nI s), .int (nI m), .int (nI (k + 1)), d5, d6, d7], [], MW (upA A 31 f) B F sw, 0, 0)) 1 rfl ?_
      have e9 : bbS n nb kind s (bbN n nb kind) k m = m := by
        unfold bbS comb
        simp only [h1, if_true]
      have h8 := ih (by rw [e9]; omega) d5 d6 d7
      rw [e9] at h8
      exact h8
    · have h1 := Classical.not_not.mp h1; have h1 := bI_0.mp h1
      refine wp_go (f' := (51, [.ref 28, .int (nI kind), .int (nI s), .int (nI m), .int (nI k), d5, d6, d7], [.int (nI k), .int (nI s), .int (nI kind), .ref 28], MW (upA A 31 f) B F sw, 0, 0)) 4 rfl ?_
      refine wp_call rfl rfl rfl (ev_up (ev_cost hkd hM31 (s := s) (v := k) (by omega) (by omega)) (by decide)) ?_
      refine wp_eq (f' := (54, [.ref 28, .int (nI kind), .int (nI s), .int (nI m), .int (nI k), d5, d6, d7], [.int (nI (costN n nb kind s k))], MW (upA A 31 f) B F sw, 0, 0)) rfl ?_
      have hco := costN_le (kind := kind) (s := s) (v := k) hM.1 hM.2.2.2
      have hbit := h1
      refine wp_go (f' := (65, [.ref 28, .int (nI kind), .int (nI s), .int (nI m), .int (nI k), .int (nI (costN n nb kind s k)), d6, d7], [.int ((nI 1) <<< ((nI k) &&& 31)), .int (nI s), .ref 31], MW (upA A 31 f) B F sw, 0, 0)) 7 rfl ?_
      rw [bx_one (by omega)]
      have hb1 : 2 ^ k < 1024 := by first | omega | exact or_lt (by omega) (by omega) | exact and_lt (by omega) | exact and_lt_r (by omega) | exact sd_lt (by omega) | exact pow_lt (by omega)
      refine wp_go (f' := (66, [.ref 28, .int (nI kind), .int (nI s), .int (nI m), .int (nI k), .int (nI (costN n nb kind s k)), d6, d7], [.int ((nI s) ||| (nI (2 ^ k))), .ref 31], MW (upA A 31 f) B F sw, 0, 0)) 1 rfl ?_
      rw [bx_or]
      have hb2 : s ||| (2 ^ k) < 1024 := by first | omega | exact or_lt (by omega) (by omega) | exact and_lt (by omega) | exact and_lt_r (by omega) | exact sd_lt (by omega) | exact pow_lt (by omega)
      refine wp_iald rfl rfl (by omega) (by decide) ?_
      refine wp_eq (f' := (67, [.ref 28, .int (nI kind), .int (nI s), .int (nI m), .int (nI k), .int (nI (costN n nb kind s k)), d6, d7], [.int (f (s ||| (2 ^ k)))], MW (upA A 31 f) B F sw, 0, 0)) rfl ?_
      rw [hf (s ||| (2 ^ k)) (or_gt hbit) (or_ltn hs hk)]
      have hbd := bbN_le (nb := nb) (kind := kind) (or_ltn hs hk)
      refine wp_go (f' := ((if ¬ (nI kind) = (nI 4) then 82 else 74), [.ref 28, .int (nI kind), .int (nI s), .int (nI m), .int (nI k), .int (nI (costN n nb kind s k)), .int (nI (bbN n nb kind (s ||| (2 ^ k)))), d7], [], MW (upA A 31 f) B F sw, 0, 0)) 4 rfl ?_
      refine wp_ite (fun h2 => ?_) (fun h2 => ?_)
      · have h2 : ¬ (kind = 4) := fun h9 => h2 ((nI_eq (a := kind) (b := 4) (by omega) (by omega)).mpr h9)
        refine wp_go (f' := ((if (nI (costN n nb kind s k)) ≤ (nI (bbN n nb kind (s ||| (2 ^ k)))) then 94 else 89), [.ref 28, .int (nI kind), .int (nI s), .int (nI m), .int (nI k), .int (nI (costN n nb kind s k)), .int (nI (bbN n nb kind (s ||| (2 ^ k)))), d7], [], MW (upA A 31 f) B F sw, 0, 0)) 3 rfl ?_
        refine wp_ite (fun h3 => ?_) (fun h3 => ?_)
        · have h3 : costN n nb kind s k ≤ bbN n nb kind (s ||| (2 ^ k)) := (nI_leI (a := costN n nb kind s k) (b := bbN n nb kind (s ||| (2 ^ k))) (by omega) (by omega)).mp h3
          refine wp_go (f' := ((if (nI m) ≤ (nI (bbN n nb kind (s ||| (2 ^ k)))) then 109 else 104), [.ref 28, .int (nI kind), .int (nI s), .int (nI m), .int (nI k), .int (nI (costN n nb kind s k)), .int (nI (bbN n nb kind (s ||| (2 ^ k)))), .int (nI (bbN n nb kind (s ||| (2 ^ k))))], [], MW (upA A 31 f) B F sw, 0, 0)) 5 rfl ?_
          refine wp_ite (fun h4 => ?_) (fun h4 => ?_)
          · have h4 : m ≤ bbN n nb kind (s ||| (2 ^ k)) := (nI_leI (a := m) (b := bbN n nb kind (s ||| (2 ^ k))) (by omega) (by omega)).mp h4
            refine wp_go (f' := (114, [.ref 28, .int (nI kind), .int (nI s), .int (nI m), .int ((nI k) + 1), .int (nI (costN n nb kind s k)), .int (nI (bbN n nb kind (s ||| (2 ^ k)))), .int (nI (bbN n nb kind (s ||| (2 ^ k))))], [], MW (upA A 31 f) B F sw, 0, 0)) 3 rfl ?_
            rw [nI_1]
            refine wp_go (f' := (28, [.ref 28, .int (nI kind), .int (nI s), .int (nI m), .int (nI (k + 1)), .int (nI (costN n nb kind s k)), .int (nI (bbN n nb kind (s ||| (2 ^ k)))), .int (nI (bbN n nb kind (s ||| (2 ^ k))))], [], MW (upA A 31 f) B F sw, 0, 0)) 1 rfl ?_
            have e9 : bbS n nb kind s (bbN n nb kind) k m = m := by
              unfold bbS comb
              simp only [h1, Bool.false_eq_true, if_false]
              repeat' split
              all_goals omega
            have h8 := ih (by rw [e9]; omega) (.int (nI (costN n nb kind s k))) (.int (nI (bbN n nb kind (s ||| (2 ^ k))))) (.int (nI (bbN n nb kind (s ||| (2 ^ k)))))
            rw [e9] at h8
            exact h8
          · have h4 : ¬ (m ≤ bbN n nb kind (s ||| (2 ^ k))) := fun h9 => h4 ((nI_leI (a := m) (b := bbN n nb kind (s ||| (2 ^ k))) (by omega) (by omega)).mpr h9)
            refine wp_go (f' := (114, [.ref 28, .int (nI kind), .int (nI s), .int (nI (bbN n nb kind (s ||| (2 ^ k)))), .int ((nI k) + 1), .int (nI (costN n nb kind s k)), .int (nI (bbN n nb kind (s ||| (2 ^ k)))), .int (nI (bbN n nb kind (s ||| (2 ^ k))))], [], MW (upA A 31 f) B F sw, 0, 0)) 4 rfl ?_
            rw [nI_1]
            refine wp_go (f' := (28, [.ref 28, .int (nI kind), .int (nI s), .int (nI (bbN n nb kind (s ||| (2 ^ k)))), .int (nI (k + 1)), .int (nI (costN n nb kind s k)), .int (nI (bbN n nb kind (s ||| (2 ^ k)))), .int (nI (bbN n nb kind (s ||| (2 ^ k))))], [], MW (upA A 31 f) B F sw, 0, 0)) 1 rfl ?_
            have e9 : bbS n nb kind s (bbN n nb kind) k m = bbN n nb kind (s ||| (2 ^ k)) := by
              unfold bbS comb
              simp only [h1, Bool.false_eq_true, if_false]
              repeat' split
              all_goals omega
            have h8 := ih (by rw [e9]; omega) (.int (nI (costN n nb kind s k))) (.int (nI (bbN n nb kind (s ||| (2 ^ k))))) (.int (nI (bbN n nb kind (s ||| (2 ^ k)))))
            rw [e9] at h8
            exact h8
        · have h3 : ¬ (costN n nb kind s k ≤ bbN n nb kind (s ||| (2 ^ k))) := fun h9 => h3 ((nI_leI (a := costN n nb kind s k) (b := bbN n nb kind (s ||| (2 ^ k))) (by omega) (by omega)).mpr h9)
          refine wp_go (f' := ((if (nI m) ≤ (nI (costN n nb kind s k)) then 109 else 104), [.ref 28, .int (nI kind), .int (nI s), .int (nI m), .int (nI k), .int (nI (costN n nb kind s k)), .int (nI (bbN n nb kind (s ||| (2 ^ k)))), .int (nI (costN n nb kind s k))], [], MW (upA A 31 f) B F sw, 0, 0)) 6 rfl ?_
          refine wp_ite (fun h5 => ?_) (fun h5 => ?_)
          · have h5 : m ≤ costN n nb kind s k := (nI_leI (a := m) (b := costN n nb kind s k) (by omega) (by omega)).mp h5
            refine wp_go (f' := (114, [.ref 28, .int (nI kind), .int (nI s), .int (nI m), .int ((nI k) + 1), .int (nI (costN n nb kind s k)), .int (nI (bbN n nb kind (s ||| (2 ^ k)))), .int (nI (costN n nb kind s k))], [], MW (upA A 31 f) B F sw, 0, 0)) 3 rfl ?_
            rw [nI_1]
            refine wp_go (f' := (28, [.ref 28, .int (nI kind), .int (nI s), .int (nI m), .int (nI (k + 1)), .int (nI (costN n nb kind s k)), .int (nI (bbN n nb kind (s ||| (2 ^ k)))), .int (nI (costN n nb kind s k))], [], MW (upA A 31 f) B F sw, 0, 0)) 1 rfl ?_
            have e9 : bbS n nb kind s (bbN n nb kind) k m = m := by
              unfold bbS comb
              simp only [h1, Bool.false_eq_true, if_false]
              repeat' split
              all_goals omega
            have h8 := ih (by rw [e9]; omega) (.int (nI (costN n nb kind s k))) (.int (nI (bbN n nb kind (s ||| (2 ^ k))))) (.int (nI (costN n nb kind s k)))
            rw [e9] at h8
            exact h8
          · have h5 : ¬ (m ≤ costN n nb kind s k) := fun h9 => h5 ((nI_leI (a := m) (b := costN n nb kind s k) (by omega) (by omega)).mpr h9)
            refine wp_go (f' := (114, [.ref 28, .int (nI kind), .int (nI s), .int (nI (costN n nb kind s k)), .int ((nI k) + 1), .int (nI (costN n nb kind s k)), .int (nI (bbN n nb kind (s ||| (2 ^ k)))), .int (nI (costN n nb kind s k))], [], MW (upA A 31 f) B F sw, 0, 0)) 4 rfl ?_
            rw [nI_1]
            refine wp_go (f' := (28, [.ref 28, .int (nI kind), .int (nI s), .int (nI (costN n nb kind s k)), .int (nI (k + 1)), .int (nI (costN n nb kind s k)), .int (nI (bbN n nb kind (s ||| (2 ^ k)))), .int (nI (costN n nb kind s k))], [], MW (upA A 31 f) B F sw, 0, 0)) 1 rfl ?_
            have e9 : bbS n nb kind s (bbN n nb kind) k m = costN n nb kind s k := by
              unfold bbS comb
              simp only [h1, Bool.false_eq_true, if_false]
              repeat' split
              all_goals omega
            have h8 := ih (by rw [e9]; omega) (.int (nI (costN n nb kind s k))) (.int (nI (bbN n nb kind (s ||| (2 ^ k))))) (.int (nI (costN n nb kind s k)))
            rw [e9] at h8
            exact h8
      · have h2 := Classical.not_not.mp h2; have h2 : kind = 4 := (nI_eq (a := kind) (b := 4) (by omega) (by omega)).mp h2
        refine wp_go (f' := (79, [.ref 28, .int (nI kind), .int (nI s), .int (nI m), .int (nI k), .int (nI (costN n nb kind s k)), .int (nI (bbN n nb kind (s ||| (2 ^ k)))), d7], [.int ((nI (costN n nb kind s k)) + (nI (bbN n nb kind (s ||| (2 ^ k)))))], MW (upA A 31 f) B F sw, 0, 0)) 3 rfl ?_
        rw [nI_add]
        refine wp_go (f' := ((if (nI m) ≤ (nI ((costN n nb kind s k) + (bbN n nb kind (s ||| (2 ^ k))))) then 109 else 104), [.ref 28, .int (nI kind), .int (nI s), .int (nI m), .int (nI k), .int (nI (costN n nb kind s k)), .int (nI (bbN n nb kind (s ||| (2 ^ k)))), .int (nI ((costN n nb kind s k) + (bbN n nb kind (s ||| (2 ^ k)))))], [], MW (upA A 31 f) B F sw, 0, 0)) 5 rfl ?_
        refine wp_ite (fun h6 => ?_) (fun h6 => ?_)
        · have h6 : m ≤ (costN n nb kind s k) + (bbN n nb kind (s ||| (2 ^ k))) := (nI_leI (a := m) (b := (costN n nb kind s k) + (bbN n nb kind (s ||| (2 ^ k)))) (by omega) (by omega)).mp h6
          refine wp_go (f' := (114, [.ref 28, .int (nI kind), .int (nI s), .int (nI m), .int ((nI k) + 1), .int (nI (costN n nb kind s k)), .int (nI (bbN n nb kind (s ||| (2 ^ k)))), .int (nI ((costN n nb kind s k) + (bbN n nb kind (s ||| (2 ^ k)))))], [], MW (upA A 31 f) B F sw, 0, 0)) 3 rfl ?_
          rw [nI_1]
          refine wp_go (f' := (28, [.ref 28, .int (nI kind), .int (nI s), .int (nI m), .int (nI (k + 1)), .int (nI (costN n nb kind s k)), .int (nI (bbN n nb kind (s ||| (2 ^ k)))), .int (nI ((costN n nb kind s k) + (bbN n nb kind (s ||| (2 ^ k)))))], [], MW (upA A 31 f) B F sw, 0, 0)) 1 rfl ?_
          have e9 : bbS n nb kind s (bbN n nb kind) k m = m := by
            unfold bbS comb
            simp only [h1, Bool.false_eq_true, if_false]
            repeat' split
            all_goals omega
          have h8 := ih (by rw [e9]; omega) (.int (nI (costN n nb kind s k))) (.int (nI (bbN n nb kind (s ||| (2 ^ k))))) (.int (nI ((costN n nb kind s k) + (bbN n nb kind (s ||| (2 ^ k))))))
          rw [e9] at h8
          exact h8
        · have h6 : ¬ (m ≤ (costN n nb kind s k) + (bbN n nb kind (s ||| (2 ^ k)))) := fun h9 => h6 ((nI_leI (a := m) (b := (costN n nb kind s k) + (bbN n nb kind (s ||| (2 ^ k)))) (by omega) (by omega)).mpr h9)
          refine wp_go (f' := (114, [.ref 28, .int (nI kind), .int (nI s), .int (nI ((costN n nb kind s k) + (bbN n nb kind (s ||| (2 ^ k))))), .int ((nI k) + 1), .int (nI (costN n nb kind s k)), .int (nI (bbN n nb kind (s ||| (2 ^ k)))), .int (nI ((costN n nb kind s k) + (bbN n nb kind (s ||| (2 ^ k)))))], [], MW (upA A 31 f) B F sw, 0, 0)) 4 rfl ?_
          rw [nI_1]
          refine wp_go (f' := (28, [.ref 28, .int (nI kind), .int (nI s), .int (nI ((costN n nb kind s k) + (bbN n nb kind (s ||| (2 ^ k))))), .int (nI (k + 1)), .int (nI (costN n nb kind s k)), .int (nI (bbN n nb kind (s ||| (2 ^ k)))), .int (nI ((costN n nb kind s k) + (bbN n nb kind (s ||| (2 ^ k)))))], [], MW (upA A 31 f) B F sw, 0, 0)) 1 rfl ?_
          have e9 : bbS n nb kind s (bbN n nb kind) k m = (costN n nb kind s k) + (bbN n nb kind (s ||| (2 ^ k))) := by
            unfold bbS comb
            simp only [h1, Bool.false_eq_true, if_false]
            repeat' split
            all_goals omega
          have h8 := ih (by rw [e9]; omega) (.int (nI (costN n nb kind s k))) (.int (nI (bbN n nb kind (s ||| (2 ^ k))))) (.int (nI ((costN n nb kind s k) + (bbN n nb kind (s ||| (2 ^ k))))))
          rw [e9] at h8
          exact h8
  · exact fun hm d5 d6 d7 => hex d5 d6 d7 hm
/-- the reference's table of least costs -/
def bbA (n : Nat) (nb : Nat → Nat) (kind : Nat) (g : Nat → Int32) : Nat → Int32 := fun j => if j < 2 ^ n then nI (bbN n nb kind j) else g j
theorem lp_tell2 (hM : MI A F n nb) {kind : Nat} (hkd : kind = 0 ∨ kind = 1 ∨ kind = 3 ∨ kind = 4) : ∀ (t : Nat) (f : Nat → Int32) (d3 d4 d5 d6 d7 : Value), t ≤ 2 ^ n → (∀ j, t ≤ j → j < 2 ^ n → f j = nI (bbN n nb kind j)) → (∀ j, 2 ^ n ≤ j → f j = A 31 j) → mv_Wp xs Ls 3 6 false none mv_c114 (5, [.ref 28, .int (nI kind), .int ((nI t) + (-1)), d3, d4, d5, d6, d7], [], MW (upA A 31 f) B F sw, 0, 0) (none, MW (upA A 31 (bbA n nb kind (A 31))) B F sw, 0, 0) := by
  have hn := hM.1
  have hp := pow10 hn
  have hp1 : 1 ≤ 2 ^ n := Nat.one_le_two_pow
  have hal := all_lt hn
  have hk4 : kind ≤ 4 := by omega
  intro t
  induction t with
  | zero =>
    intro f d3 d4 d5 d6 d7 ht hf hg
    have e : f = bbA n nb kind (A 31) := by
      funext j
      unfold bbA
      split
      · rename_i h; exact hf j (Nat.zero_le _) h
      · rename_i h; exact hg j (by omega)
    subst e
    rw [show nI 0 + (-1) = (-1 : Int32) by decide]
    refine wp_go (f' := ((if (-1) < 0 then 130 else 9), [.ref 28, .int (nI kind), .int (-1), d3, d4, d5, d6, d7], [], MW (upA A 31 (bbA n nb kind (A 31))) B F sw, 0, 0)) 2 rfl ?_
    refine wp_ite (fun _ => ?_) (fun h9 => absurd (by decide : (-1 : Int32) < 0) h9)
    exact wp_vret rfl
  | succ s ih =>
    intro f d3 d4 d5 d6 d7 ht hf hg
    have hM31 : MI (upA A 31 f) F n nb := hM
    rw [pk_m1]
    refine wp_go (f' := ((if (nI s) < 0 then 130 else 9), [.ref 28, .int (nI kind), .int (nI s), d3, d4, d5, d6, d7], [], MW (upA A 31 f) B F sw, 0, 0)) 2 rfl ?_
    refine wp_ite (fun h9 => absurd h9 (nI_pos (n := s) (by omega))) (fun _ => ?_)
    refine wp_go (f' := (11, [.ref 28, .int (nI kind), .int (nI s), d3, d4, d5, d6, d7], [.ref 28, .int (nI s)], MW (upA A 31 f) B F sw, 0, 0)) 2 rfl ?_
    refine wp_call rfl rfl rfl (ev_up (ev_all hM31) (by decide)) ?_
    refine wp_eq (f' := (14, [.ref 28, .int (nI kind), .int (nI s), d3, d4, d5, d6, d7], [.int (nI (2 ^ n - 1)), .int (nI s)], MW (upA A 31 f) B F sw, 0, 0)) rfl ?_
    refine wp_go (f' := ((if ¬ (nI s) = (nI (2 ^ n - 1)) then 21 else 17), [.ref 28, .int (nI kind), .int (nI s), d3, d4, d5, d6, d7], [], MW (upA A 31 f) B F sw, 0, 0)) 1 rfl ?_
    refine wp_ite (fun h1 => ?_) (fun h1 => ?_)
    · have h1 : ¬ (s = 2 ^ n - 1) := fun h9 => h1 ((nI_eq (a := s) (b := 2 ^ n - 1) (by omega) (by omega)).mpr h9)
      refine wp_go (f' := (28, [.ref 28, .int (nI kind), .int (nI s), .int (nI 1000), .int (nI 0), d5, d6, d7], [], MW (upA A 31 f) B F sw, 0, 0)) 4 rfl ?_
      refine lp_tell (m0 := 1000) hM hkd (by omega) (fun j h1 h2 => hf j (by omega) h2) (by omega) ?_ d5 d6 d7
      intro d5 d6 d7 hle
      have e9 : forN (bbS n nb kind s (bbN n nb kind)) n 1000 = bbN n nb kind s := by rw [bbN_eq (by omega), if_neg h1]
      rw [e9]
      have hbb := bbN_le (n := n) (nb := nb) (kind := kind) (s := s) (by omega)
      refine wp_go (f' := (34, [.ref 28, .int (nI kind), .int (nI s), .int (nI (bbN n nb kind s)), .int (nI n), d5, d6, d7], [.int (F 6), .int (nI n)], MW (upA A 31 f) B F sw, 0, 0)) 3 rfl ?_
      rw [hM.2.1]
      refine wp_go (f' := ((if (nI n) ≤ (nI n) then 117 else 37), [.ref 28, .int (nI kind), .int (nI s), .int (nI (bbN n nb kind s)), .int (nI n), d5, d6, d7], [], MW (upA A 31 f) B F sw, 0, 0)) 1 rfl ?_
      refine wp_ite (fun _ => ?_) (fun h9 => absurd (nI_le (Nat.le_refl _) (by omega)) h9)
      refine wp_go (f' := (123, [.ref 28, .int (nI kind), .int (nI s), .int (nI (bbN n nb kind s)), .int (nI n), d5, d6, d7], [.int (nI (bbN n nb kind s)), .int (nI s), .ref 31], MW (upA A 31 f) B F sw, 0, 0)) 4 rfl ?_
      refine wp_iast rfl rfl (by omega) (by decide) ?_
      refine wp_eq (f' := (124, [.ref 28, .int (nI kind), .int (nI s), .int (nI (bbN n nb kind s)), .int (nI n), d5, d6, d7], [], MW (upA A 31 (upd f s (nI (bbN n nb kind s)))) B F sw, 0, 0)) rfl ?_
      refine wp_go (f' := (5, [.ref 28, .int (nI kind), .int ((nI s) + (-1)), .int (nI (bbN n nb kind s)), .int (nI n), d5, d6, d7], [], MW (upA A 31 (upd f s (nI (bbN n nb kind s)))) B F sw, 0, 0)) 2 rfl ?_
      refine ih (upd f s (nI (bbN n nb kind s))) _ _ _ _ _ (by omega) ?_ ?_
      · intro j h1 h2
        by_cases e : j = s
        · rw [e, pk_us]
        · rw [pk_un e]; exact hf j (by omega) h2
      · intro j h1
        rw [pk_un (by omega)]
        exact hg j h1
    · have h1 := Classical.not_not.mp h1; have h1 : s = 2 ^ n - 1 := (nI_eq (a := s) (b := 2 ^ n - 1) (by omega) (by omega)).mp h1
      refine wp_go (f' := (28, [.ref 28, .int (nI kind), .int (nI s), .int (nI 0), .int (nI 0), d5, d6, d7], [], MW (upA A 31 f) B F sw, 0, 0)) 5 rfl ?_
      refine lp_tell (m0 := 0) hM hkd (by omega) (fun j h1 h2 => hf j (by omega) h2) (by omega) ?_ d5 d6 d7
      intro d5 d6 d7 hle
      have e9 : forN (bbS n nb kind s (bbN n nb kind)) n 0 = bbN n nb kind s := by rw [bbN_eq (by omega), if_pos h1]
      rw [e9]
      have hbb := bbN_le (n := n) (nb := nb) (kind := kind) (s := s) (by omega)
      refine wp_go (f' := (34, [.ref 28, .int (nI kind), .int (nI s), .int (nI (bbN n nb kind s)), .int (nI n), d5, d6, d7], [.int (F 6), .int (nI n)], MW (upA A 31 f) B F sw, 0, 0)) 3 rfl ?_
      rw [hM.2.1]
      refine wp_go (f' := ((if (nI n) ≤ (nI n) then 117 else 37), [.ref 28, .int (nI kind), .int (nI s), .int (nI (bbN n nb kind s)), .int (nI n), d5, d6, d7], [], MW (upA A 31 f) B F sw, 0, 0)) 1 rfl ?_
      refine wp_ite (fun _ => ?_) (fun h9 => absurd (nI_le (Nat.le_refl _) (by omega)) h9)
      refine wp_go (f' := (123, [.ref 28, .int (nI kind), .int (nI s), .int (nI (bbN n nb kind s)), .int (nI n), d5, d6, d7], [.int (nI (bbN n nb kind s)), .int (nI s), .ref 31], MW (upA A 31 f) B F sw, 0, 0)) 4 rfl ?_
      refine wp_iast rfl rfl (by omega) (by decide) ?_
      refine wp_eq (f' := (124, [.ref 28, .int (nI kind), .int (nI s), .int (nI (bbN n nb kind s)), .int (nI n), d5, d6, d7], [], MW (upA A 31 (upd f s (nI (bbN n nb kind s)))) B F sw, 0, 0)) rfl ?_
      refine wp_go (f' := (5, [.ref 28, .int (nI kind), .int ((nI s) + (-1)), .int (nI (bbN n nb kind s)), .int (nI n), d5, d6, d7], [], MW (upA A 31 (upd f s (nI (bbN n nb kind s)))) B F sw, 0, 0)) 2 rfl ?_
      refine ih (upd f s (nI (bbN n nb kind s))) _ _ _ _ _ (by omega) ?_ ?_
      · intro j h1 h2
        by_cases e : j = s
        · rw [e, pk_us]
        · rw [pk_un e]; exact hf j (by omega) h2
      · intro j h1
        rw [pk_un (by omega)]
        exact hg j h1
theorem ev_tellBehind (hM : MI A F n nb) {kind : Nat} (hkd : kind = 0 ∨ kind = 1 ∨ kind = 3 ∨ kind = 4) : mv_Ev xs Ls 4 114 [.ref 28, .int (nI kind)] (MW A B F sw) (none, MW (upA A 31 (bbA n nb kind (A 31))) B F sw, 0, 0) := by
  refine ev_of_wp rfl rfl rfl ?_
  have hn := hM.1
  have hp := pow10 hn
  have hp1 : 1 ≤ 2 ^ n := Nat.one_le_two_pow
  have hal := all_lt hn
  refine wp_go (f' := (1, [.ref 28, .int (nI kind), .retAddr 0, .retAddr 0, .retAddr 0, .retAddr 0, .retAddr 0, .retAddr 0], [.ref 28], MW A B F sw, 0, 0)) 1 rfl ?_
  refine wp_call rfl rfl rfl (ev_up (ev_all hM) (by decide)) ?_
  refine wp_eq (f' := (4, [.ref 28, .int (nI kind), .retAddr 0, .retAddr 0, .retAddr 0, .retAddr 0, .retAddr 0, .retAddr 0], [.int (nI (2 ^ n - 1))], MW A B F sw, 0, 0)) rfl ?_
  refine wp_go (f' := (5, [.ref 28, .int (nI kind), .int (nI (2 ^ n - 1)), .retAddr 0, .retAddr 0, .retAddr 0, .retAddr 0, .retAddr 0], [], MW A B F sw, 0, 0)) 1 rfl ?_
  refine wp_eq (f' := (5, [.ref 28, .int (nI kind), .int (nI (2 ^ n - 1)), .retAddr 0, .retAddr 0, .retAddr 0, .retAddr 0, .retAddr 0], [], MW (upA A 31 (A 31)) B F sw, 0, 0)) rfl ?_
  have h8 := lp_tell2 (xs := xs) (Ls := Ls) (B := B) (sw := sw) hM hkd (2 ^ n) (A 31) (.retAddr 0) (.retAddr 0) (.retAddr 0) (.retAddr 0) (.retAddr 0) (Nat.le_refl _) (fun j h1 h2 => by omega) (fun j h1 => rfl)
  rw [show nI (2 ^ n) + (-1) = nI (2 ^ n - 1) by have h := pk_m1 (2 ^ n - 1); rw [show 2 ^ n - 1 + 1 = 2 ^ n by omega] at h; exact h] at h8
  exact h8
end MM
