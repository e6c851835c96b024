def joA (n : Nat) (nb : Nat → Nat) (a : Nat) (g : Nat → Int32) : Nat → Int32 := forN (fun k f => upd f k (nI (joN n nb a k))) n g
theorem joA_at {n : Nat} {nb : Nat → Nat} {a : Nat} {g : Nat → Int32} {j : Nat} (hj : j < n) : joA n nb a g j = nI (joN n nb a j) := by
  have h := forN_inv (f := fun k (f : Nat → Int32) => upd f k (nI (joN n nb a k))) (n := n) (a := g) (I := fun k (f : Nat → Int32) => j < k → f j = nI (joN n nb a j)) (fun h => absurd h (Nat.not_lt_zero _)) (fun k f hk hf h => ?_) n (Nat.le_refl _)
  · exact h hj
  · by_cases e : j = k
    · rw [e, pk_us]
    · rw [pk_un e]; exact hf (by omega)
theorem jo_lt {n : Nat} {nb : Nat → Nat} {a k : Nat} (hn : n ≤ 10) (hb : ∀ v, v < 10 → nb v < 1024) : joN n nb a k < 1024 := by
  unfold joN
  split
  · exact sd_lt (reachN_lt hn hb _)
  · omega
section MM
variable {xs : Nat → Int32} {Ls : Nat} {A : Nat → Nat → Int32} {B : Nat → Nat → Int64} {F : Nat → Int32} {sw : Bool} {n : Nat} {nb : Nat → Nat}
theorem and_sd0 {w a t : Nat} (hw : w < 1024) (h : w &&& a = 0) : sd w t &&& a = 0 := by
  apply Nat.eq_of_testBit_eq
  intro i
  have h1 := congrArg (fun x => x.testBit i) h
  simp only [Nat.testBit_and, Nat.zero_testBit] at h1
  rw [Nat.testBit_and, sd_bit _ _ _ hw, Nat.zero_testBit]
  revert h1
  cases w.testBit i <;> cases a.testBit i <;> simp
theorem ev_tellHigh (hM : MI A F n nb) {hi : Nat → Nat} (hH : ∀ j, j < 10 → A 33 j = nI (hi j) ∧ hi j ≤ 1000) {a : Nat} (ha : a < 2 ^ n) : mv_Ev xs Ls 3 112 [.ref 28, .int (nI a)] (MW A B F sw) (none, MW (upA (upA A 35 (joA n nb a (A 35))) 34 (beP n nb hi a (A 34)).2) B F sw, 0, 0) := by
  refine ev_of_wp rfl rfl rfl ?_
  have hn := hM.1
  have hp := pow10 hn
  have hp1 : 1 ≤ 2 ^ n := Nat.one_le_two_pow
  have hal := all_lt hn
  refine wp_go (f' := (2, [.ref 28, .int (nI a), .int (nI 0), .retAddr 0, .retAddr 0, .retAddr 0], [], MW A B F sw, 0, 0)) 2 rfl ?_
  refine wp_eq (f' := (2, [.ref 28, .int (nI a), .int (nI 0), .retAddr 0, .retAddr 0, .retAddr 0], [], MW (upA (upA A 35 (A 35)) 34 (A 34)) B F sw, 0, 0)) rfl ?_
  refine for_ind (P := fun (k : Nat) (f : Nat → Int32) => mv_Wp xs Ls 2 6 false none mv_c112 (2, [.ref 28, .int (nI a), .int (nI k), .retAddr 0, .retAddr 0, .retAddr 0], [], MW (upA (upA A 35 f) 34 (A 34)) B F sw, 0, 0) (none, MW (upA (upA A 35 (joA n nb a (A 35))) 34 (beP n nb hi a (A 34)).2) B F sw, 0, 0)) (f := fun k f => upd f k (nI (joN n nb a k))) (n := n) ?_ n (A 35) (Nat.le_refl _) ?_
  · intro k f hk ih
    refine wp_go (f' := (7, [.ref 28, .int (nI a), .int (nI k), .retAddr 0, .retAddr 0, .retAddr 0], [.int (F 6), .int (nI k)], MW (upA (upA A 35 f) 34 (A 34)) B F sw, 0, 0)) 3 rfl ?_
    rw [hM.2.1]
    refine wp_go (f' := ((if (nI n) ≤ (nI k) then 45 else 10), [.ref 28, .int (nI a), .int (nI k), .retAddr 0, .retAddr 0, .retAddr 0], [], MW (upA (upA A 35 f) 34 (A 34)) B F sw, 0, 0)) 1 rfl ?_
    refine wp_ite (fun h9 => absurd h9 (nI_ge hk (by omega))) (fun _ => ?_)
    refine wp_go (f' := (20, [.ref 28, .int (nI a), .int (nI k), .retAddr 0, .retAddr 0, .retAddr 0], [.int (((nI a) >>> ((nI k) &&& 31)) &&& (nI 1)), .int (nI k), .ref 35], MW (upA (upA A 35 f) 34 (A 34)) B F sw, 0, 0)) 8 rfl ?_
    rw [bx_bit (by omega) (by omega)]
    refine wp_go (f' := ((if ¬ (bI (a.testBit k)) = (nI 1) then 37 else 24), [.ref 28, .int (nI a), .int (nI k), .retAddr 0, .retAddr 0, .retAddr 0], [.int (nI k), .ref 35], MW (upA (upA A 35 f) 34 (A 34)) B F sw, 0, 0)) 2 rfl ?_
    refine wp_ite (fun h1 => ?_) (fun h1 => ?_)
    · have h1 := bI_n1 h1
      refine wp_go (f' := (38, [.ref 28, .int (nI a), .int (nI k), .retAddr 0, .retAddr 0, .retAddr 0], [.int (nI 0), .int (nI k), .ref 35], MW (upA (upA A 35 f) 34 (A 34)) B F sw, 0, 0)) 1 rfl ?_
      refine wp_iast rfl rfl (by omega) (by decide) ?_
      refine wp_eq (f' := (39, [.ref 28, .int (nI a), .int (nI k), .retAddr 0, .retAddr 0, .retAddr 0], [], MW (upA (upA A 34 (A 34)) 35 (upd f k (nI 0))) B F sw, 0, 0)) rfl ?_
      refine wp_go (f' := (42, [.ref 28, .int (nI a), .int ((nI k) + 1), .retAddr 0, .retAddr 0, .retAddr 0], [], MW (upA (upA A 34 (A 34)) 35 (upd f k (nI 0))) B F sw, 0, 0)) 1 rfl ?_
      rw [nI_1]
      refine wp_go (f' := (2, [.ref 28, .int (nI a), .int (nI (k + 1)), .retAddr 0, .retAddr 0, .retAddr 0], [], MW (upA (upA A 34 (A 34)) 35 (upd f k (nI 0))) B F sw, 0, 0)) 1 rfl ?_
      have e1 : joN n nb a k = 0 := by unfold joN; rw [if_neg (by rw [h1]; decide)]
      rw [e1] at ih
      exact ih
    · have h1 := Classical.not_not.mp h1; have h1 := bI_1.mp h1
      refine wp_go (f' := (28, [.ref 28, .int (nI a), .int (nI k), .retAddr 0, .retAddr 0, .retAddr 0], [.int (nI a), .int (nI k), .ref 28, .ref 28, .int (nI k), .ref 35], MW (upA (upA A 35 f) 34 (A 34)) B F sw, 0, 0)) 4 rfl ?_
      refine wp_call rfl rfl rfl (ev_up (ev_hang (A := (upA (upA A 35 f) 34 (A 34))) hM (v := k) (s := a) (by omega) (by omega)) (by decide)) ?_
      refine wp_eq (f' := (31, [.ref 28, .int (nI a), .int (nI k), .retAddr 0, .retAddr 0, .retAddr 0], [.int (nI (hangN n nb k a)), .ref 28, .int (nI k), .ref 35], MW (upA (upA A 35 f) 34 (A 34)) B F sw, 0, 0)) rfl ?_
      have hhg := hangN_lt (n := n) (nb := nb) (v := k) (s := a) (by omega) (by omega)
      refine wp_call rfl rfl rfl (ev_up (ev_around (A := (upA (upA A 35 f) 34 (A 34))) hM (s := hangN n nb k a) (by omega)) (by decide)) ?_
      refine wp_eq (f' := (34, [.ref 28, .int (nI a), .int (nI k), .retAddr 0, .retAddr 0, .retAddr 0], [.int (nI (sd (reachN n nb (hangN n nb k a)) (hangN n nb k a))), .int (nI k), .ref 35], MW (upA (upA A 35 f) 34 (A 34)) B F sw, 0, 0)) rfl ?_
      have hra := sd_lt (b := hangN n nb k a) (reachN_lt hM.1 hM.2.2.2 (hangN n nb k a))
      refine wp_go (f' := (38, [.ref 28, .int (nI a), .int (nI k), .retAddr 0, .retAddr 0, .retAddr 0], [.int (nI (sd (reachN n nb (hangN n nb k a)) (hangN n nb k a))), .int (nI k), .ref 35], MW (upA (upA A 35 f) 34 (A 34)) B F sw, 0, 0)) 1 rfl ?_
      refine wp_iast rfl rfl (by omega) (by decide) ?_
      refine wp_eq (f' := (39, [.ref 28, .int (nI a), .int (nI k), .retAddr 0, .retAddr 0, .retAddr 0], [], MW (upA (upA A 34 (A 34)) 35 (upd f k (nI (sd (reachN n nb (hangN n nb k a)) (hangN n nb k a))))) B F sw, 0, 0)) rfl ?_
      refine wp_go (f' := (42, [.ref 28, .int (nI a), .int ((nI k) + 1), .retAddr 0, .retAddr 0, .retAddr 0], [], MW (upA (upA A 34 (A 34)) 35 (upd f k (nI (sd (reachN n nb (hangN n nb k a)) (hangN n nb k a))))) B F sw, 0, 0)) 1 rfl ?_
      rw [nI_1]
      refine wp_go (f' := (2, [.ref 28, .int (nI a), .int (nI (k + 1)), .retAddr 0, .retAddr 0, .retAddr 0], [], MW (upA (upA A 34 (A 34)) 35 (upd f k (nI (sd (reachN n nb (hangN n nb k a)) (hangN n nb k a))))) B F sw, 0, 0)) 1 rfl ?_
      have e1 : joN n nb a k = sd (reachN n nb (hangN n nb k a)) (hangN n nb k a) := by unfold joN; rw [if_pos h1]
      rw [e1] at ih
      exact ih
  · skip
    refine wp_go (f' := (7, [.ref 28, .int (nI a), .int (nI n), .retAddr 0, .retAddr 0, .retAddr 0], [.int (F 6), .int (nI n)], MW (upA (upA A 35 (joA n nb a (A 35))) 34 (A 34)) B F sw, 0, 0)) 3 rfl ?_
    rw [hM.2.1]
    refine wp_go (f' := ((if (nI n) ≤ (nI n) then 45 else 10), [.ref 28, .int (nI a), .int (nI n), .retAddr 0, .retAddr 0, .retAddr 0], [], MW (upA (upA A 35 (joA n nb a (A 35))) 34 (A 34)) B F sw, 0, 0)) 1 rfl ?_
    refine wp_ite (fun _ => ?_) (fun h9 => absurd (nI_le (Nat.le_refl _) (by omega)) h9)
    refine wp_go (f' := (47, [.ref 28, .int (nI a), .int (nI 0), .retAddr 0, .retAddr 0, .retAddr 0], [], MW (upA (upA A 35 (joA n nb a (A 35))) 34 (A 34)) B F sw, 0, 0)) 2 rfl ?_
    refine for_ind (P := fun (w : Nat) (q : (Nat → Nat) × (Nat → Int32)) => (∀ u, u < w → u &&& a = 0 → q.2 u = nI (q.1 u) ∧ q.1 u ≤ 1000) → ∀ e3 e4 e5 : Value, mv_Wp xs Ls 2 6 false none mv_c112 (47, [.ref 28, .int (nI a), .int (nI w), e3, e4, e5], [], MW (upA (upA A 35 (joA n nb a (A 35))) 34 q.2) B F sw, 0, 0) (none, MW (upA (upA A 35 (joA n nb a (A 35))) 34 (beP n nb hi a (A 34)).2) B F sw, 0, 0)) (f := beS n nb hi a) (n := 2 ^ n) ?_ (2 ^ n) ((fun _ => 0), A 34) (Nat.le_refl _) ?_ (fun u hu => absurd hu (Nat.not_lt_zero _)) _ _ _
    · intro w q hw ih hq e3 e4 e5
      have hwal : w &&& a < 1024 := and_lt (by omega)
      by_cases hwa : w &&& a = 0
      · have e1 : beS n nb hi a w q = (upN q.1 w (beX n nb hi a w q.1), upd q.2 w (nI (beX n nb hi a w q.1))) := by unfold beS; rw [if_pos hwa]
        rw [e1] at ih
        have hBX := beX_le (n := n) (nb := nb) (hi := hi) (T := q.1) (a := a) (w := w) (by omega) (by omega) hwa (fun u h1 h2 => (hq u h1 h2).2)
        have ih9 := ih ?_
        · skip
          refine wp_go (f' := (49, [.ref 28, .int (nI a), .int (nI w), e3, e4, e5], [.ref 28, .int (nI w)], MW (upA (upA A 35 (joA n nb a (A 35))) 34 q.2) B F sw, 0, 0)) 2 rfl ?_
          refine wp_call rfl rfl rfl (ev_up (ev_all (A := (upA (upA A 35 (joA n nb a (A 35))) 34 q.2)) hM) (by decide)) ?_
          refine wp_eq (f' := (52, [.ref 28, .int (nI a), .int (nI w), e3, e4, e5], [.int (nI (2 ^ n - 1)), .int (nI w)], MW (upA (upA A 35 (joA n nb a (A 35))) 34 q.2) B F sw, 0, 0)) rfl ?_
          refine wp_go (f' := ((if (nI (2 ^ n - 1)) < (nI w) then 158 else 55), [.ref 28, .int (nI a), .int (nI w), e3, e4, e5], [], MW (upA (upA A 35 (joA n nb a (A 35))) 34 q.2) B F sw, 0, 0)) 1 rfl ?_
          refine wp_ite (fun h9 => absurd h9 (nI_nlt (by omega) (by omega))) (fun _ => ?_)
          refine wp_go (f' := (58, [.ref 28, .int (nI a), .int (nI w), e3, e4, e5], [.int ((nI w) &&& (nI a))], MW (upA (upA A 35 (joA n nb a (A 35))) 34 q.2) B F sw, 0, 0)) 3 rfl ?_
          rw [bx_and]
          refine wp_go (f' := ((if ¬ (nI (w &&& a)) = 0 then 152 else 61), [.ref 28, .int (nI a), .int (nI w), e3, e4, e5], [], MW (upA (upA A 35 (joA n nb a (A 35))) 34 q.2) B F sw, 0, 0)) 1 rfl ?_
          refine wp_ite (fun h9 => absurd h9 (fun h8 => h8 (by rw [hwa]; rfl))) (fun _ => ?_)
          refine wp_go (f' := (67, [.ref 28, .int (nI a), .int (nI w), e3, e4, e5], [.int (nI 0), .int (nI w), .ref 34], MW (upA (upA A 35 (joA n nb a (A 35))) 34 q.2) B F sw, 0, 0)) 4 rfl ?_
          refine wp_iast rfl rfl (by omega) (by decide) ?_
          refine wp_eq (f' := (68, [.ref 28, .int (nI a), .int (nI w), e3, e4, e5], [], MW (upA (upA A 35 (joA n nb a (A 35))) 34 (upd q.2 w (nI 0))) B F sw, 0, 0)) rfl ?_
          refine wp_go (f' := (70, [.ref 28, .int (nI a), .int (nI w), .int (nI w), e4, e5], [], MW (upA (upA A 35 (joA n nb a (A 35))) 34 (upd q.2 w (nI 0))) B F sw, 0, 0)) 2 rfl ?_
          refine wh_ind (P := fun (rest : Nat) => ∀ (m : Nat) (e4 e5 : Value), subS rest w → m ≤ 1000 → reF n nb a w (fun p => if p = w then (tpN n (joN n nb a) hi q.1 w) else q.1 p) 1024 rest m = (beX n nb hi a w q.1) → mv_Wp xs Ls 2 6 false none mv_c112 (70, [.ref 28, .int (nI a), .int (nI w), .int (nI rest), e4, e5], [], MW (upA (upA A 35 (joA n nb a (A 35))) 34 (upd q.2 w (nI m))) B F sw, 0, 0) (none, MW (upA (upA A 35 (joA n nb a (A 35))) 34 (beP n nb hi a (A 34)).2) B F sw, 0, 0)) (fun rest => rest) ?_ w 0 _ _ (fun _ h => h) (by omega) rfl
          intro rest ih2 m e4 e5 hsr hm hre
          have hrl : rest ≤ w := subS_le hsr
          have hol : w ||| a < 1024 := or_lt (by omega) (by omega)
          by_cases hr0 : rest = 0
          · subst hr0
            have hmB : m = (beX n nb hi a w q.1) := by rw [← hre]; rfl
            rw [hmB]
            refine wp_go (f' := ((if (nI 0) = 0 then 152 else 74), [.ref 28, .int (nI a), .int (nI w), .int (nI 0), e4, e5], [], MW (upA (upA A 35 (joA n nb a (A 35))) 34 (upd q.2 w (nI (beX n nb hi a w q.1)))) B F sw, 0, 0)) 2 rfl ?_
            refine wp_ite (fun _ => ?_) (fun h9 => absurd rfl h9)
            refine wp_go (f' := (155, [.ref 28, .int (nI a), .int ((nI w) + 1), .int (nI 0), e4, e5], [], MW (upA (upA A 35 (joA n nb a (A 35))) 34 (upd q.2 w (nI (beX n nb hi a w q.1)))) B F sw, 0, 0)) 1 rfl ?_
            rw [nI_1]
            refine wp_go (f' := (47, [.ref 28, .int (nI a), .int (nI (w + 1)), .int (nI 0), e4, e5], [], MW (upA (upA A 35 (joA n nb a (A 35))) 34 (upd q.2 w (nI (beX n nb hi a w q.1)))) B F sw, 0, 0)) 1 rfl ?_
            exact ih9 _ _ _
          · obtain ⟨p1, p2, p3⟩ := pt_ok (n := n) (nb := nb) (a := a) (w := w) (rest := rest) (by omega) (by omega) hwa hsr hr0
            have hpl := subS_le p1
            have hlt := sd_lss (by omega : rest < 1024) (low_bit (by omega) hr0) p2
            have hlw := low_lt (s := rest) (by omega) hr0
            rw [reF_s (by omega) (by omega) hwa hsr hr0] at hre
            have hw34 : upd q.2 w (nI m) w = nI m := pk_us
            by_cases hpw : (ptN n nb a w rest) = w
            · have hval : (fun p => if p = w then (tpN n (joN n nb a) hi q.1 w) else q.1 p) (ptN n nb a w rest) = (tpN n (joN n nb a) hi q.1 w) := if_pos hpw
              have hvl := tpN_le (n := n) (jo := joN n nb a) (hi := hi) (b := q.1) (w := w)
              rw [if_pos hpw] at hre
              refine wp_go (f' := ((if (nI rest) = 0 then 152 else 74), [.ref 28, .int (nI a), .int (nI w), .int (nI rest), e4, e5], [], MW (upA (upA A 35 (joA n nb a (A 35))) 34 (upd q.2 w (nI m))) B F sw, 0, 0)) 2 rfl ?_
              refine wp_ite (fun h9 => absurd h9 (fun h8 => hr0 ((nI_eq (a := rest) (b := 0) (by omega) (by omega)).mp h8))) (fun _ => ?_)
              refine wp_go (f' := (76, [.ref 28, .int (nI a), .int (nI w), .int (nI rest), e4, e5], [.int (nI rest), .ref 28], MW (upA (upA A 35 (joA n nb a (A 35))) 34 (upd q.2 w (nI m))) B F sw, 0, 0)) 2 rfl ?_
              refine wp_call rfl rfl rfl (ev_up (ev_lowest (s := rest) (by omega) (by omega) _) (by decide)) ?_
              refine wp_eq (f' := (79, [.ref 28, .int (nI a), .int (nI w), .int (nI rest), e4, e5], [.int (nI (low rest)), .ref 28], MW (upA (upA A 35 (joA n nb a (A 35))) 34 (upd q.2 w (nI m))) B F sw, 0, 0)) rfl ?_
              have hlw := low_lt (s := rest) (by omega) (by omega)
              refine wp_go (f' := (82, [.ref 28, .int (nI a), .int (nI w), .int (nI rest), e4, e5], [.int ((nI w) ||| (nI a)), .int (nI (low rest)), .ref 28], MW (upA (upA A 35 (joA n nb a (A 35))) 34 (upd q.2 w (nI m))) B F sw, 0, 0)) 3 rfl ?_
              rw [bx_or]
              refine wp_call rfl rfl rfl (ev_up (ev_hang (A := (upA (upA A 35 (joA n nb a (A 35))) 34 (upd q.2 w (nI m)))) hM (v := low rest) (s := w ||| a) (by omega) (by omega)) (by decide)) ?_
              refine wp_eq (f' := (85, [.ref 28, .int (nI a), .int (nI w), .int (nI rest), e4, e5], [.int (nI (hangN n nb (low rest) (w ||| a)))], MW (upA (upA A 35 (joA n nb a (A 35))) 34 (upd q.2 w (nI m))) B F sw, 0, 0)) rfl ?_
              have hhg := hangN_lt (n := n) (nb := nb) (v := low rest) (s := w ||| a) (by omega) (by omega)
              refine wp_go (f' := (89, [.ref 28, .int (nI a), .int (nI w), .int (nI rest), e4, e5], [.int ((nI (hangN n nb (low rest) (w ||| a))) &&& ((nI a) ^^^ (-1)))], MW (upA (upA A 35 (joA n nb a (A 35))) 34 (upd q.2 w (nI m))) B F sw, 0, 0)) 4 rfl ?_
              rw [bx_sd (by omega)]
              rw [(rfl : nI (sd (hangN n nb (low rest) (w ||| a)) a) = nI (ptN n nb a w rest))]
              refine wp_go (f' := ((if ¬ (nI (ptN n nb a w rest)) = (nI w) then 105 else 97), [.ref 28, .int (nI a), .int (nI w), .int (nI rest), .int (nI (ptN n nb a w rest)), e5], [], MW (upA (upA A 35 (joA n nb a (A 35))) 34 (upd q.2 w (nI m))) B F sw, 0, 0)) 4 rfl ?_
              refine wp_ite (fun h9 => absurd h9 (fun h8 => h8 (congrArg nI hpw))) (fun _ => ?_)
              refine wp_go (f' := (99, [.ref 28, .int (nI a), .int (nI w), .int (nI rest), .int (nI (ptN n nb a w rest)), e5], [.int (nI w), .ref 28], MW (upA (upA A 35 (joA n nb a (A 35))) 34 (upd q.2 w (nI m))) B F sw, 0, 0)) 2 rfl ?_
              refine wp_call rfl rfl rfl (ev_up (ev_top (A := (upA (upA A 35 (joA n nb a (A 35))) 34 (upd q.2 w (nI m)))) hM hH (jo := joN n nb a) (b := q.1) (w := w) (by omega) (fun j hj => ⟨joA_at hj, jo_lt hn hM.2.2.2⟩) (fun v hv hb => by have h6 := sd_lss (t := 2 ^ v) (by omega : w < 1024) hb (by rw [Nat.testBit_two_pow]; simp); have h7 : sd w (2 ^ v) &&& a = 0 := and_sd0 (by omega) hwa; show upd q.2 w (nI m) _ = _ ∧ _; rw [pk_un (by omega)]; exact hq _ h6 h7)) (by decide)) ?_
              refine wp_eq (f' := (102, [.ref 28, .int (nI a), .int (nI w), .int (nI rest), .int (nI (ptN n nb a w rest)), e5], [.int (nI (tpN n (joN n nb a) hi q.1 w))], MW (upA (upA A 35 (joA n nb a (A 35))) 34 (upd q.2 w (nI m))) B F sw, 0, 0)) rfl ?_
              refine wp_go (f' := (126, [.ref 28, .int (nI a), .int (nI w), .int (nI rest), .int (nI (ptN n nb a w rest)), .int (nI (tpN n (joN n nb a) hi q.1 w))], [.int (nI w), .ref 34, .int (nI (tpN n (joN n nb a) hi q.1 w)), .int (nI w), .ref 34], MW (upA (upA A 35 (joA n nb a (A 35))) 34 (upd q.2 w (nI m))) B F sw, 0, 0)) 9 rfl ?_
              refine wp_iald rfl rfl (by omega) (by decide) ?_
              refine wp_eq (f' := (127, [.ref 28, .int (nI a), .int (nI w), .int (nI rest), .int (nI (ptN n nb a w rest)), .int (nI (tpN n (joN n nb a) hi q.1 w))], [.int ((upd q.2 w (nI m)) w), .int (nI (tpN n (joN n nb a) hi q.1 w)), .int (nI w), .ref 34], MW (upA (upA A 35 (joA n nb a (A 35))) 34 (upd q.2 w (nI m))) B F sw, 0, 0)) rfl ?_
              rw [hw34]
              refine wp_go (f' := ((if (nI (tpN n (joN n nb a) hi q.1 w)) ≤ (nI m) then 135 else 130), [.ref 28, .int (nI a), .int (nI w), .int (nI rest), .int (nI (ptN n nb a w rest)), .int (nI (tpN n (joN n nb a) hi q.1 w))], [.int (nI w), .ref 34], MW (upA (upA A 35 (joA n nb a (A 35))) 34 (upd q.2 w (nI m))) B F sw, 0, 0)) 1 rfl ?_
              refine wp_ite (fun h1 => ?_) (fun h1 => ?_)
              · have h1 : tpN n (joN n nb a) hi q.1 w ≤ m := (nI_leI (a := tpN n (joN n nb a) hi q.1 w) (b := m) (by omega) (by omega)).mp h1
                refine wp_go (f' := (140, [.ref 28, .int (nI a), .int (nI w), .int (nI rest), .int (nI (ptN n nb a w rest)), .int (nI (tpN n (joN n nb a) hi q.1 w))], [.int (nI w), .ref 34, .int (nI w), .ref 34], MW (upA (upA A 35 (joA n nb a (A 35))) 34 (upd q.2 w (nI m))) B F sw, 0, 0)) 3 rfl ?_
                refine wp_iald rfl rfl (by omega) (by decide) ?_
                refine wp_eq (f' := (141, [.ref 28, .int (nI a), .int (nI w), .int (nI rest), .int (nI (ptN n nb a w rest)), .int (nI (tpN n (joN n nb a) hi q.1 w))], [.int ((upd q.2 w (nI m)) w), .int (nI w), .ref 34], MW (upA (upA A 35 (joA n nb a (A 35))) 34 (upd q.2 w (nI m))) B F sw, 0, 0)) rfl ?_
                rw [hw34]
                refine wp_iast rfl rfl (by omega) (by decide) ?_
                refine wp_eq (f' := (142, [.ref 28, .int (nI a), .int (nI w), .int (nI rest), .int (nI (ptN n nb a w rest)), .int (nI (tpN n (joN n nb a) hi q.1 w))], [], MW (upA (upA A 35 (joA n nb a (A 35))) 34 (upd (upd q.2 w (nI m)) w (nI m))) B F sw, 0, 0)) rfl ?_
                refine wp_go (f' := (148, [.ref 28, .int (nI a), .int (nI w), .int (nI rest), .int (nI (ptN n nb a w rest)), .int (nI (tpN n (joN n nb a) hi q.1 w))], [.int ((nI rest) &&& ((nI (ptN n nb a w rest)) ^^^ (-1)))], MW (upA (upA A 35 (joA n nb a (A 35))) 34 (upd (upd q.2 w (nI m)) w (nI m))) B F sw, 0, 0)) 5 rfl ?_
                rw [bx_sd (by omega)]
                refine wp_go (f' := (70, [.ref 28, .int (nI a), .int (nI w), .int (nI (sd rest (ptN n nb a w rest))), .int (nI (ptN n nb a w rest)), .int (nI (tpN n (joN n nb a) hi q.1 w))], [], MW (upA (upA A 35 (joA n nb a (A 35))) 34 (upd (upd q.2 w (nI m)) w (nI m))) B F sw, 0, 0)) 2 rfl ?_
                rw [if_neg (by omega)] at hre
                have h9 := ih2 (sd rest (ptN n nb a w rest)) hlt m (.int (nI (ptN n nb a w rest))) (.int (nI (tpN n (joN n nb a) hi q.1 w))) (subS_sdc (by omega) hsr) (by omega) hre
                rw [upd_upd]
                exact h9
              · have h1 : ¬ (tpN n (joN n nb a) hi q.1 w ≤ m) := fun h9 => h1 ((nI_leI (a := tpN n (joN n nb a) hi q.1 w) (b := m) (by omega) (by omega)).mpr h9)
                refine wp_go (f' := (141, [.ref 28, .int (nI a), .int (nI w), .int (nI rest), .int (nI (ptN n nb a w rest)), .int (nI (tpN n (joN n nb a) hi q.1 w))], [.int (nI (tpN n (joN n nb a) hi q.1 w)), .int (nI w), .ref 34], MW (upA (upA A 35 (joA n nb a (A 35))) 34 (upd q.2 w (nI m))) B F sw, 0, 0)) 2 rfl ?_
                refine wp_iast rfl rfl (by omega) (by decide) ?_
                refine wp_eq (f' := (142, [.ref 28, .int (nI a), .int (nI w), .int (nI rest), .int (nI (ptN n nb a w rest)), .int (nI (tpN n (joN n nb a) hi q.1 w))], [], MW (upA (upA A 35 (joA n nb a (A 35))) 34 (upd (upd q.2 w (nI m)) w (nI (tpN n (joN n nb a) hi q.1 w)))) B F sw, 0, 0)) rfl ?_
                refine wp_go (f' := (148, [.ref 28, .int (nI a), .int (nI w), .int (nI rest), .int (nI (ptN n nb a w rest)), .int (nI (tpN n (joN n nb a) hi q.1 w))], [.int ((nI rest) &&& ((nI (ptN n nb a w rest)) ^^^ (-1)))], MW (upA (upA A 35 (joA n nb a (A 35))) 34 (upd (upd q.2 w (nI m)) w (nI (tpN n (joN n nb a) hi q.1 w)))) B F sw, 0, 0)) 5 rfl ?_
                rw [bx_sd (by omega)]
                refine wp_go (f' := (70, [.ref 28, .int (nI a), .int (nI w), .int (nI (sd rest (ptN n nb a w rest))), .int (nI (ptN n nb a w rest)), .int (nI (tpN n (joN n nb a) hi q.1 w))], [], MW (upA (upA A 35 (joA n nb a (A 35))) 34 (upd (upd q.2 w (nI m)) w (nI (tpN n (joN n nb a) hi q.1 w)))) B F sw, 0, 0)) 2 rfl ?_
                rw [if_pos (by omega)] at hre
                have h9 := ih2 (sd rest (ptN n nb a w rest)) hlt (tpN n (joN n nb a) hi q.1 w) (.int (nI (ptN n nb a w rest))) (.int (nI (tpN n (joN n nb a) hi q.1 w))) (subS_sdc (by omega) hsr) (by omega) hre
                rw [upd_upd]
                exact h9
            · have hval : (fun p => if p = w then (tpN n (joN n nb a) hi q.1 w) else q.1 p) (ptN n nb a w rest) = q.1 (ptN n nb a w rest) := if_neg hpw
              have hvl := (hq (ptN n nb a w rest) (by omega) p3).2
              rw [if_neg hpw] at hre
              have hpt : upd q.2 w (nI m) (ptN n nb a w rest) = nI (q.1 (ptN n nb a w rest)) := by rw [pk_un hpw]; exact (hq _ (by omega) p3).1
              refine wp_go (f' := ((if (nI rest) = 0 then 152 else 74), [.ref 28, .int (nI a), .int (nI w), .int (nI rest), e4, e5], [], MW (upA (upA A 35 (joA n nb a (A 35))) 34 (upd q.2 w (nI m))) B F sw, 0, 0)) 2 rfl ?_
              refine wp_ite (fun h9 => absurd h9 (fun h8 => hr0 ((nI_eq (a := rest) (b := 0) (by omega) (by omega)).mp h8))) (fun _ => ?_)
              refine wp_go (f' := (76, [.ref 28, .int (nI a), .int (nI w), .int (nI rest), e4, e5], [.int (nI rest), .ref 28], MW (upA (upA A 35 (joA n nb a (A 35))) 34 (upd q.2 w (nI m))) B F sw, 0, 0)) 2 rfl ?_
              refine wp_call rfl rfl rfl (ev_up (ev_lowest (s := rest) (by omega) (by omega) _) (by decide)) ?_
              refine wp_eq (f' := (79, [.ref 28, .int (nI a), .int (nI w), .int (nI rest), e4, e5], [.int (nI (low rest)), .ref 28], MW (upA (upA A 35 (joA n nb a (A 35))) 34 (upd q.2 w (nI m))) B F sw, 0, 0)) rfl ?_
              have hlw := low_lt (s := rest) (by omega) (by omega)
              refine wp_go (f' := (82, [.ref 28, .int (nI a), .int (nI w), .int (nI rest), e4, e5], [.int ((nI w) ||| (nI a)), .int (nI (low rest)), .ref 28], MW (upA (upA A 35 (joA n nb a (A 35))) 34 (upd q.2 w (nI m))) B F sw, 0, 0)) 3 rfl ?_
              rw [bx_or]
              refine wp_call rfl rfl rfl (ev_up (ev_hang (A := (upA (upA A 35 (joA n nb a (A 35))) 34 (upd q.2 w (nI m)))) hM (v := low rest) (s := w ||| a) (by omega) (by omega)) (by decide)) ?_
              refine wp_eq (f' := (85, [.ref 28, .int (nI a), .int (nI w), .int (nI rest), e4, e5], [.int (nI (hangN n nb (low rest) (w ||| a)))], MW (upA (upA A 35 (joA n nb a (A 35))) 34 (upd q.2 w (nI m))) B F sw, 0, 0)) rfl ?_
              have hhg := hangN_lt (n := n) (nb := nb) (v := low rest) (s := w ||| a) (by omega) (by omega)
              refine wp_go (f' := (89, [.ref 28, .int (nI a), .int (nI w), .int (nI rest), e4, e5], [.int ((nI (hangN n nb (low rest) (w ||| a))) &&& ((nI a) ^^^ (-1)))], MW (upA (upA A 35 (joA n nb a (A 35))) 34 (upd q.2 w (nI m))) B F sw, 0, 0)) 4 rfl ?_
              rw [bx_sd (by omega)]
              rw [(rfl : nI (sd (hangN n nb (low rest) (w ||| a)) a) = nI (ptN n nb a w rest))]
              refine wp_go (f' := ((if ¬ (nI (ptN n nb a w rest)) = (nI w) then 105 else 97), [.ref 28, .int (nI a), .int (nI w), .int (nI rest), .int (nI (ptN n nb a w rest)), e5], [], MW (upA (upA A 35 (joA n nb a (A 35))) 34 (upd q.2 w (nI m))) B F sw, 0, 0)) 4 rfl ?_
              refine wp_ite (fun _ => ?_) (fun h9 => absurd (fun h8 => hpw ((nI_eq (a := (ptN n nb a w rest)) (b := w) (by omega) (by omega)).mp h8)) h9)
              refine wp_go (f' := (111, [.ref 28, .int (nI a), .int (nI w), .int (nI rest), .int (nI (ptN n nb a w rest)), e5], [.int (nI (ptN n nb a w rest)), .ref 34], MW (upA (upA A 35 (joA n nb a (A 35))) 34 (upd q.2 w (nI m))) B F sw, 0, 0)) 3 rfl ?_
              refine wp_iald rfl rfl (by omega) (by decide) ?_
              refine wp_eq (f' := (112, [.ref 28, .int (nI a), .int (nI w), .int (nI rest), .int (nI (ptN n nb a w rest)), e5], [.int ((upd q.2 w (nI m)) (ptN n nb a w rest))], MW (upA (upA A 35 (joA n nb a (A 35))) 34 (upd q.2 w (nI m))) B F sw, 0, 0)) rfl ?_
              rw [hpt]
              refine wp_go (f' := (126, [.ref 28, .int (nI a), .int (nI w), .int (nI rest), .int (nI (ptN n nb a w rest)), .int (nI (q.1 (ptN n nb a w rest)))], [.int (nI w), .ref 34, .int (nI (q.1 (ptN n nb a w rest))), .int (nI w), .ref 34], MW (upA (upA A 35 (joA n nb a (A 35))) 34 (upd q.2 w (nI m))) B F sw, 0, 0)) 8 rfl ?_
              refine wp_iald rfl rfl (by omega) (by decide) ?_
              refine wp_eq (f' := (127, [.ref 28, .int (nI a), .int (nI w), .int (nI rest), .int (nI (ptN n nb a w rest)), .int (nI (q.1 (ptN n nb a w rest)))], [.int ((upd q.2 w (nI m)) w), .int (nI (q.1 (ptN n nb a w rest))), .int (nI w), .ref 34], MW (upA (upA A 35 (joA n nb a (A 35))) 34 (upd q.2 w (nI m))) B F sw, 0, 0)) rfl ?_
              rw [hw34]
              refine wp_go (f' := ((if (nI (q.1 (ptN n nb a w rest))) ≤ (nI m) then 135 else 130), [.ref 28, .int (nI a), .int (nI w), .int (nI rest), .int (nI (ptN n nb a w rest)), .int (nI (q.1 (ptN n nb a w rest)))], [.int (nI w), .ref 34], MW (upA (upA A 35 (joA n nb a (A 35))) 34 (upd q.2 w (nI m))) B F sw, 0, 0)) 1 rfl ?_
              refine wp_ite (fun h1 => ?_) (fun h1 => ?_)
              · have h1 : q.1 (ptN n nb a w rest) ≤ m := (nI_leI (a := q.1 (ptN n nb a w rest)) (b := m) (by omega) (by omega)).mp h1
                refine wp_go (f' := (140, [.ref 28, .int (nI a), .int (nI w), .int (nI rest), .int (nI (ptN n nb a w rest)), .int (nI (q.1 (ptN n nb a w rest)))], [.int (nI w), .ref 34, .int (nI w), .ref 34], MW (upA (upA A 35 (joA n nb a (A 35))) 34 (upd q.2 w (nI m))) B F sw, 0, 0)) 3 rfl ?_
                refine wp_iald rfl rfl (by omega) (by decide) ?_
                refine wp_eq (f' := (141, [.ref 28, .int (nI a), .int (nI w), .int (nI rest), .int (nI (ptN n nb a w rest)), .int (nI (q.1 (ptN n nb a w rest)))], [.int ((upd q.2 w (nI m)) w), .int (nI w), .ref 34], MW (upA (upA A 35 (joA n nb a (A 35))) 34 (upd q.2 w (nI m))) B F sw, 0, 0)) rfl ?_
                rw [hw34]
                refine wp_iast rfl rfl (by omega) (by decide) ?_
                refine wp_eq (f' := (142, [.ref 28, .int (nI a), .int (nI w), .int (nI rest), .int (nI (ptN n nb a w rest)), .int (nI (q.1 (ptN n nb a w rest)))], [], MW (upA (upA A 35 (joA n nb a (A 35))) 34 (upd (upd q.2 w (nI m)) w (nI m))) B F sw, 0, 0)) rfl ?_
                refine wp_go (f' := (148, [.ref 28, .int (nI a), .int (nI w), .int (nI rest), .int (nI (ptN n nb a w rest)), .int (nI (q.1 (ptN n nb a w rest)))], [.int ((nI rest) &&& ((nI (ptN n nb a w rest)) ^^^ (-1)))], MW (upA (upA A 35 (joA n nb a (A 35))) 34 (upd (upd q.2 w (nI m)) w (nI m))) B F sw, 0, 0)) 5 rfl ?_
                rw [bx_sd (by omega)]
                refine wp_go (f' := (70, [.ref 28, .int (nI a), .int (nI w), .int (nI (sd rest (ptN n nb a w rest))), .int (nI (ptN n nb a w rest)), .int (nI (q.1 (ptN n nb a w rest)))], [], MW (upA (upA A 35 (joA n nb a (A 35))) 34 (upd (upd q.2 w (nI m)) w (nI m))) B F sw, 0, 0)) 2 rfl ?_
                rw [if_neg (by omega)] at hre
                have h9 := ih2 (sd rest (ptN n nb a w rest)) hlt m (.int (nI (ptN n nb a w rest))) (.int (nI (q.1 (ptN n nb a w rest)))) (subS_sdc (by omega) hsr) (by omega) hre
                rw [upd_upd]
                exact h9
              · have h1 : ¬ (q.1 (ptN n nb a w rest) ≤ m) := fun h9 => h1 ((nI_leI (a := q.1 (ptN n nb a w rest)) (b := m) (by omega) (by omega)).mpr h9)
                refine wp_go (f' := (141, [.ref 28, .int (nI a), .int (nI w), .int (nI rest), .int (nI (ptN n nb a w rest)), .int (nI (q.1 (ptN n nb a w rest)))], [.int (nI (q.1 (ptN n nb a w rest))), .int (nI w), .ref 34], MW (upA (upA A 35 (joA n nb a (A 35))) 34 (upd q.2 w (nI m))) B F sw, 0, 0)) 2 rfl ?_
                refine wp_iast rfl rfl (by omega) (by decide) ?_
                refine wp_eq (f' := (142, [.ref 28, .int (nI a), .int (nI w), .int (nI rest), .int (nI (ptN n nb a w rest)), .int (nI (q.1 (ptN n nb a w rest)))], [], MW (upA (upA A 35 (joA n nb a (A 35))) 34 (upd (upd q.2 w (nI m)) w (nI (q.1 (ptN n nb a w rest))))) B F sw, 0, 0)) rfl ?_
                refine wp_go (f' := (148, [.ref 28, .int (nI a), .int (nI w), .int (nI rest), .int (nI (ptN n nb a w rest)), .int (nI (q.1 (ptN n nb a w rest)))], [.int ((nI rest) &&& ((nI (ptN n nb a w rest)) ^^^ (-1)))], MW (upA (upA A 35 (joA n nb a (A 35))) 34 (upd (upd q.2 w (nI m)) w (nI (q.1 (ptN n nb a w rest))))) B F sw, 0, 0)) 5 rfl ?_
                rw [bx_sd (by omega)]
                refine wp_go (f' := (70, [.ref 28, .int (nI a), .int (nI w), .int (nI (sd rest (ptN n nb a w rest))), .int (nI (ptN n nb a w rest)), .int (nI (q.1 (ptN n nb a w rest)))], [], MW (upA (upA A 35 (joA n nb a (A 35))) 34 (upd (upd q.2 w (nI m)) w (nI (q.1 (ptN n nb a w rest))))) B F sw, 0, 0)) 2 rfl ?_
                rw [if_pos (by omega)] at hre
                have h9 := ih2 (sd rest (ptN n nb a w rest)) hlt (q.1 (ptN n nb a w rest)) (.int (nI (ptN n nb a w rest))) (.int (nI (q.1 (ptN n nb a w rest)))) (subS_sdc (by omega) hsr) (by omega) hre
                rw [upd_upd]
                exact h9
        · intro u hu hua
          show upd q.2 w _ u = nI (upN q.1 w _ u) ∧ upN q.1 w _ u ≤ 1000
          unfold upN
          by_cases e : u = w
          · rw [e, pk_us, if_pos rfl]; exact ⟨rfl, hBX⟩
          · rw [pk_un e, if_neg e]; exact hq u (by omega) hua
      · have e1 : beS n nb hi a w q = q := by unfold beS; rw [if_neg hwa]
        rw [e1] at ih
        refine wp_go (f' := (49, [.ref 28, .int (nI a), .int (nI w), e3, e4, e5], [.ref 28, .int (nI w)], MW (upA (upA A 35 (joA n nb a (A 35))) 34 q.2) B F sw, 0, 0)) 2 rfl ?_
        refine wp_call rfl rfl rfl (ev_up (ev_all (A := (upA (upA A 35 (joA n nb a (A 35))) 34 q.2)) hM) (by decide)) ?_
        refine wp_eq (f' := (52, [.ref 28, .int (nI a), .int (nI w), e3, e4, e5], [.int (nI (2 ^ n - 1)), .int (nI w)], MW (upA (upA A 35 (joA n nb a (A 35))) 34 q.2) B F sw, 0, 0)) rfl ?_
        refine wp_go (f' := ((if (nI (2 ^ n - 1)) < (nI w) then 158 else 55), [.ref 28, .int (nI a), .int (nI w), e3, e4, e5], [], MW (upA (upA A 35 (joA n nb a (A 35))) 34 q.2) B F sw, 0, 0)) 1 rfl ?_
        refine wp_ite (fun h9 => absurd h9 (nI_nlt (by omega) (by omega))) (fun _ => ?_)
        refine wp_go (f' := (58, [.ref 28, .int (nI a), .int (nI w), e3, e4, e5], [.int ((nI w) &&& (nI a))], MW (upA (upA A 35 (joA n nb a (A 35))) 34 q.2) B F sw, 0, 0)) 3 rfl ?_
        rw [bx_and]
        refine wp_go (f' := ((if ¬ (nI (w &&& a)) = 0 then 152 else 61), [.ref 28, .int (nI a), .int (nI w), e3, e4, e5], [], MW (upA (upA A 35 (joA n nb a (A 35))) 34 q.2) B F sw, 0, 0)) 1 rfl ?_
        refine wp_ite (fun _ => ?_) (fun h9 => absurd (fun h8 => hwa ((nI_eq (a := w &&& a) (b := 0) (by omega) (by omega)).mp h8)) h9)
        refine wp_go (f' := (155, [.ref 28, .int (nI a), .int ((nI w) + 1), e3, e4, e5], [], MW (upA (upA A 35 (joA n nb a (A 35))) 34 q.2) B F sw, 0, 0)) 1 rfl ?_
        rw [nI_1]
        refine wp_go (f' := (47, [.ref 28, .int (nI a), .int (nI (w + 1)), e3, e4, e5], [], MW (upA (upA A 35 (joA n nb a (A 35))) 34 q.2) B F sw, 0, 0)) 1 rfl ?_
        exact ih (fun u hu hua => hq u (by have h5 : u ≠ w := fun e => hwa (e ▸ hua); omega) hua) _ _ _
    · intro hq e3 e4 e5
      refine wp_go (f' := (49, [.ref 28, .int (nI a), .int (nI (2 ^ n)), e3, e4, e5], [.ref 28, .int (nI (2 ^ n))], MW (upA (upA A 35 (joA n nb a (A 35))) 34 (beP n nb hi a (A 34)).2) B F sw, 0, 0)) 2 rfl ?_
      refine wp_call rfl rfl rfl (ev_up (ev_all (A := (upA (upA A 35 (joA n nb a (A 35))) 34 (beP n nb hi a (A 34)).2)) hM) (by decide)) ?_
      refine wp_eq (f' := (52, [.ref 28, .int (nI a), .int (nI (2 ^ n)), e3, e4, e5], [.int (nI (2 ^ n - 1)), .int (nI (2 ^ n))], MW (upA (upA A 35 (joA n nb a (A 35))) 34 (beP n nb hi a (A 34)).2) B F sw, 0, 0)) rfl ?_
      refine wp_go (f' := ((if (nI (2 ^ n - 1)) < (nI (2 ^ n)) then 158 else 55), [.ref 28, .int (nI a), .int (nI (2 ^ n)), e3, e4, e5], [], MW (upA (upA A 35 (joA n nb a (A 35))) 34 (beP n nb hi a (A 34)).2) B F sw, 0, 0)) 1 rfl ?_
      refine wp_ite (fun _ => ?_) (fun h9 => absurd (nI_lt (by omega) (by omega)) h9)
      exact wp_vret rfl
end MM
