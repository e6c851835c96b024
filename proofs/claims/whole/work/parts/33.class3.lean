/-- the rows stand -/
def RI (A : Nat → Nat → Int32) (n : Nat) (nb : Nat → Nat) : Prop := ∀ s, s < 2 ^ n → A 4 s = nI (rcN nb s) ∧ A 5 s = nI (inN nb s) ∧ A 6 s = nI (pcN nb s)
theorem pc_sub {nb : Nat → Nat} {s : Nat} (hs : s < 1024) {i : Nat} (h : (pcN nb s).testBit i = true) : s.testBit i = true := by
  unfold pcN at h
  split at h
  · simp at h
  · rename_i h0; exact sp_sub hs h0 10 i h
theorem pc_le {nb : Nat → Nat} {s : Nat} (hs : s < 1024) : pcN nb s ≤ s := sub_le (fun _ h => pc_sub hs h)
theorem rc_lt {nb : Nat → Nat} (hb : ∀ v, v < 10 → nb v < 1024) : ∀ s, s < 1024 → rcN nb s < 1024 := by
  refine wh_ind (P := fun s => s < 1024 → rcN nb s < 1024) (fun s => s) (fun s ih hs => ?_)
  by_cases h0 : s = 0
  · subst h0; unfold rcN; rw [lowN_0]; decide
  · have h1 : s &&& (s - 1) ≤ s - 1 := Nat.and_le_right
    rw [rc_s hs h0]
    exact or_lt (ih _ (by omega) (by omega)) (hb _ (low_lt hs h0))
/-- part after part of t, by their lowest vertices -/
def pieF (nb : Nat → Nat) (g : Nat → Nat → Nat) : Nat → Nat → Nat → Nat
  | 0, _, m => m
  | f + 1, t, m => if t = 0 then m else pieF nb g f (sd (t &&& (t - 1)) (pcN nb t)) (g t m)
def pieN (nb : Nat → Nat) (g : Nat → Nat → Nat) (t m : Nat) : Nat := pieF nb g 1024 t m
theorem pieF_succ (nb : Nat → Nat) (g : Nat → Nat → Nat) (f t m : Nat) : pieF nb g (f + 1) t m = if t = 0 then m else pieF nb g f (sd (t &&& (t - 1)) (pcN nb t)) (g t m) := rfl
theorem pie_less {nb : Nat → Nat} {t : Nat} (h0 : ¬ t = 0) : sd (t &&& (t - 1)) (pcN nb t) < t := by
  have h1 : t &&& (t - 1) ≤ t - 1 := Nat.and_le_right
  have h2 := sd_le (a := t &&& (t - 1)) (b := pcN nb t)
  omega
theorem pieF_fuel {nb : Nat → Nat} {g : Nat → Nat → Nat} : ∀ (f k t m : Nat), t ≤ f → t ≤ k → pieF nb g f t m = pieF nb g k t m
  | 0, 0, t, m, h1, h2 => rfl
  | 0, k + 1, t, m, h1, h2 => by
    have : t = 0 := by omega
    subst this; simp [pieF]
  | f + 1, 0, t, m, h1, h2 => by
    have : t = 0 := by omega
    subst this; simp [pieF]
  | f + 1, k + 1, t, m, h1, h2 => by
    rw [pieF_succ, pieF_succ]
    by_cases h : t = 0
    · rw [if_pos h, if_pos h]
    · rw [if_neg h, if_neg h]
      have := pie_less (nb := nb) h
      exact pieF_fuel f k _ _ (by omega) (by omega)
theorem pieN_0 (nb : Nat → Nat) (g : Nat → Nat → Nat) (m : Nat) : pieN nb g 0 m = m := by
  unfold pieN
  rw [show (1024 : Nat) = 1023 + 1 from rfl, pieF_succ]
  exact if_pos rfl
theorem pieN_s {nb : Nat → Nat} {g : Nat → Nat → Nat} {t m : Nat} (ht : t < 1024) (h0 : ¬ t = 0) : pieN nb g t m = pieN nb g (sd (t &&& (t - 1)) (pcN nb t)) (g t m) := by
  have := pie_less (nb := nb) h0
  unfold pieN
  rw [show pieF nb g 1024 t m = pieF nb g (1023 + 1) t m from rfl, pieF_succ, if_neg h0]
  exact pieF_fuel 1023 1024 _ _ (by omega) (by omega)
theorem pie_ind {P : Nat → Nat → Prop} {nb : Nat → Nat} {g : Nat → Nat → Nat} {N : Nat} (hN : N ≤ 1024) (hs : ∀ t m, t < N → ¬ t = 0 → P (sd (t &&& (t - 1)) (pcN nb t)) (g t m) → P t m) : ∀ (t : Nat) (m : Nat), t < N → P 0 (pieN nb g t m) → P t m := by
  refine wh_ind (P := fun t => ∀ m, t < N → P 0 (pieN nb g t m) → P t m) (fun t => t) (fun t ih m ht h => ?_)
  by_cases h0 : t = 0
  · subst h0; rw [pieN_0] at h; exact h
  · have h2 := pie_less (nb := nb) h0
    rw [pieN_s (by omega) h0] at h
    exact hs t m ht h0 (ih _ h2 _ (by omega) h)
/-- the class's touched -/
def tchN (nb : Nat → Nat) (ahead v : Nat) : Nat := pieN nb (fun t m => if (rcN nb (pcN nb t)).testBit v then m ||| pcN nb t else m) ahead 0
/-- the class's seesPast -/
def pastN (nb : Nat → Nat) (ahead v : Nat) : Nat := sd (sd (nb v ||| rcN nb (tchN nb ahead v)) ahead) (2 ^ v)
theorem pie_inv {nb : Nat → Nat} {g : Nat → Nat → Nat} {I : Nat → Prop} {N : Nat} (hN : N ≤ 1024) (hs : ∀ t m, t < N → I m → I (g t m)) {t m : Nat} (ht : t < N) (h : I m) : I (pieN nb g t m) := by
  have := pie_ind (P := fun t m => I m → t < N → I (pieN nb g t m)) (nb := nb) (g := g) hN (fun t m ht h0 ih hm ht2 => by rw [pieN_s (by omega) h0]; exact ih (hs t m ht hm) (by have := pie_less (nb := nb) h0; omega)) t m ht
  refine this (fun hm _ => by rw [pieN_0]; exact hm) h ht
theorem tch_lt {nb : Nat → Nat} {n ahead v : Nat} (hn : n ≤ 10) (ha : ahead < 2 ^ n) : tchN nb ahead v < 2 ^ n := by
  have hp := pow10 hn
  refine pie_inv (I := fun m => m < 2 ^ n) hp (fun t m ht hm => ?_) ha (Nat.pos_of_ne_zero (by have : 1 ≤ 2 ^ n := Nat.one_le_two_pow; omega))
  split
  · exact Nat.or_lt_two_pow hm (Nat.lt_of_le_of_lt (pc_le (by omega)) ht)
  · exact hm
section CC
variable {xs : Nat → Int32} {Ls : Nat} {A : Nat → Nat → Int32} {B : Nat → Nat → Int64} {F : Nat → Int32} {sw : Bool} {n : Nat} {nb : Nat → Nat}
theorem ev_gHangs (hC : CI A F n nb) (hR : RI A n nb) {s : Nat} (hs : s < 2 ^ n) : mv_Ev xs Ls 1 27 [.ref 1, .int (nI s)] (MW A B F sw) (some (.int (bI (decide (pcN nb s = s)))), MW A B F sw, 0, 0) := by
  refine ev_of_wp rfl rfl rfl ?_
  have hn := hC.1
  have hp := pow10 hn
  have hp1 : 1 ≤ 2 ^ n := Nat.one_le_two_pow
  have hal := all_lt hn
  refine wp_go (f' := (5, [.ref 1, .int (nI s)], [.int (nI s), .ref 6], MW A B F sw, 0, 0)) 3 rfl ?_
  refine wp_iald rfl rfl (by omega) (by decide) ?_
  rw [(hR s (by omega)).2.2]
  have hpcl := pc_le (nb := nb) (s := s) (by omega)
  refine wp_go (f' := ((if ¬ (nI (pcN nb s)) = (nI s) then 14 else 10), [.ref 1, .int (nI s)], [], MW A B F sw, 0, 0)) 2 rfl ?_
  refine wp_ite (fun h1 => ?_) (fun h1 => ?_)
  · have h1 : ¬ (pcN nb s = s) := fun h9 => h1 ((nI_eq (a := pcN nb s) (b := s) (by omega) (by omega)).mpr h9)
    refine wp_go (f' := (15, [.ref 1, .int (nI s)], [.int (nI 0)], MW A B F sw, 0, 0)) 1 rfl ?_
    rw [show bI (decide (pcN nb s = s)) = nI 0 by simp [h1, bIT, bIF, nI1, nI0]]
    exact wp_zret rfl (by first | exact Or.inl rfl | exact Or.inr rfl)
  · have h1 := Classical.not_not.mp h1; have h1 : pcN nb s = s := (nI_eq (a := pcN nb s) (b := s) (by omega) (by omega)).mp h1
    refine wp_go (f' := (15, [.ref 1, .int (nI s)], [.int (nI 1)], MW A B F sw, 0, 0)) 2 rfl ?_
    rw [show bI (decide (pcN nb s = s)) = nI 1 by simp [h1, bIT, bIF, nI1, nI0]]
    exact wp_zret rfl (by first | exact Or.inl rfl | exact Or.inr rfl)
theorem ev_gTouched (hC : CI A F n nb) (hR : RI A n nb) {s v : Nat} (hs : s < 2 ^ n) (hv : v < 10) : mv_Ev xs Ls 1 36 [.ref 1, .int (nI s), .int (nI v)] (MW A B F sw) (some (.int (nI (tchN nb s v))), MW A B F sw, 0, 0) := by
  refine ev_of_wp rfl rfl rfl ?_
  have hn := hC.1
  have hp := pow10 hn
  have hp1 : 1 ≤ 2 ^ n := Nat.one_le_two_pow
  have hal := all_lt hn
  refine wp_go (f' := (5, [.ref 1, .int (nI s), .int (nI v), .int (nI 0), .int (nI s)], [], MW A B F sw, 0, 0)) 4 rfl ?_
  refine pie_ind (P := fun (t m : Nat) => mv_Wp xs Ls 0 2 false (some .int) mv_c36 (5, [.ref 1, .int (nI s), .int (nI v), .int (nI m), .int (nI t)], [], MW A B F sw, 0, 0) (some (.int (nI (tchN nb s v))), MW A B F sw, 0, 0)) (nb := nb) (g := fun t m => if (rcN nb (pcN nb t)).testBit v then m ||| pcN nb t else m) (N := 2 ^ n) hp ?_ s 0 hs ?_
  · intro t m ht ht0 ih
    have hla : t &&& (t - 1) < 1024 := and_lt (by omega)
    refine wp_go (f' := ((if (nI t) = 0 then 61 else 10), [.ref 1, .int (nI s), .int (nI v), .int (nI m), .int (nI t)], [], MW A B F sw, 0, 0)) 2 rfl ?_
    refine wp_ite (fun h9 => absurd h9 (fun h8 => ht0 ((nI_eq (a := t) (b := 0) (by omega) (by omega)).mp h8))) (fun _ => ?_)
    refine wp_go (f' := (20, [.ref 1, .int (nI s), .int (nI v), .int (nI m), .int (nI t)], [.int (nI t), .ref 6, .ref 4], MW A B F sw, 0, 0)) 5 rfl ?_
    refine wp_iald rfl rfl (by omega) (by decide) ?_
    rw [(hR t (by omega)).2.2]
    have hpcl := pc_le (nb := nb) (s := t) (by omega)
    refine wp_iald rfl rfl (by omega) (by decide) ?_
    rw [(hR (pcN nb t) (by omega)).1]
    have hrcl := rc_lt hC.2.2.2 (pcN nb t) (by omega)
    refine wp_go (f' := (26, [.ref 1, .int (nI s), .int (nI v), .int (nI m), .int (nI t)], [.int (((nI (rcN nb (pcN nb t))) >>> ((nI v) &&& 31)) &&& (nI 1))], MW A B F sw, 0, 0)) 4 rfl ?_
    rw [bx_bit (by omega) (by omega)]
    refine wp_go (f' := ((if (bI ((rcN nb (pcN nb t)).testBit v)) = 0 then 39 else 29), [.ref 1, .int (nI s), .int (nI v), .int (nI m), .int (nI t)], [], MW A B F sw, 0, 0)) 1 rfl ?_
    refine wp_ite (fun h1 => ?_) (fun h1 => ?_)
    · have h1 := bI_0.mp h1
      refine wp_go (f' := (45, [.ref 1, .int (nI s), .int (nI v), .int (nI m), .int (nI t)], [.int ((nI t) - (nI 1)), .int (nI t)], MW A B F sw, 0, 0)) 4 rfl ?_
      rw [pk_sub (by omega)]
      refine wp_go (f' := (46, [.ref 1, .int (nI s), .int (nI v), .int (nI m), .int (nI t)], [.int ((nI t) &&& (nI (t - 1)))], MW A B F sw, 0, 0)) 1 rfl ?_
      rw [bx_and]
      refine wp_go (f' := (52, [.ref 1, .int (nI s), .int (nI v), .int (nI m), .int (nI t)], [.int (nI t), .ref 6, .int (nI (t &&& (t - 1)))], MW A B F sw, 0, 0)) 3 rfl ?_
      refine wp_iald rfl rfl (by omega) (by decide) ?_
      rw [(hR t (by omega)).2.2]
      have hpcl := pc_le (nb := nb) (s := t) (by omega)
      refine wp_go (f' := (56, [.ref 1, .int (nI s), .int (nI v), .int (nI m), .int (nI t)], [.int ((nI (t &&& (t - 1))) &&& ((nI (pcN nb t)) ^^^ (-1)))], MW A B F sw, 0, 0)) 3 rfl ?_
      rw [bx_sd (by omega)]
      refine wp_go (f' := (5, [.ref 1, .int (nI s), .int (nI v), .int (nI m), .int (nI (sd (t &&& (t - 1)) (pcN nb t)))], [], MW A B F sw, 0, 0)) 2 rfl ?_
      refine wp_eq ?_ ih
      simp [h1]
    · have h1 := bI_n0 h1
      refine wp_go (f' := (36, [.ref 1, .int (nI s), .int (nI v), .int (nI m), .int (nI t)], [.int (nI t), .ref 6, .int (nI m)], MW A B F sw, 0, 0)) 4 rfl ?_
      refine wp_iald rfl rfl (by omega) (by decide) ?_
      rw [(hR t (by omega)).2.2]
      have hpcl := pc_le (nb := nb) (s := t) (by omega)
      refine wp_go (f' := (38, [.ref 1, .int (nI s), .int (nI v), .int (nI m), .int (nI t)], [.int ((nI m) ||| (nI (pcN nb t)))], MW A B F sw, 0, 0)) 1 rfl ?_
      rw [bx_or]
      refine wp_go (f' := (45, [.ref 1, .int (nI s), .int (nI v), .int (nI (m ||| (pcN nb t))), .int (nI t)], [.int ((nI t) - (nI 1)), .int (nI t)], MW A B F sw, 0, 0)) 5 rfl ?_
      rw [pk_sub (by omega)]
      refine wp_go (f' := (46, [.ref 1, .int (nI s), .int (nI v), .int (nI (m ||| (pcN nb t))), .int (nI t)], [.int ((nI t) &&& (nI (t - 1)))], MW A B F sw, 0, 0)) 1 rfl ?_
      rw [bx_and]
      refine wp_go (f' := (52, [.ref 1, .int (nI s), .int (nI v), .int (nI (m ||| (pcN nb t))), .int (nI t)], [.int (nI t), .ref 6, .int (nI (t &&& (t - 1)))], MW A B F sw, 0, 0)) 3 rfl ?_
      refine wp_iald rfl rfl (by omega) (by decide) ?_
      rw [(hR t (by omega)).2.2]
      have hpcl := pc_le (nb := nb) (s := t) (by omega)
      refine wp_go (f' := (56, [.ref 1, .int (nI s), .int (nI v), .int (nI (m ||| (pcN nb t))), .int (nI t)], [.int ((nI (t &&& (t - 1))) &&& ((nI (pcN nb t)) ^^^ (-1)))], MW A B F sw, 0, 0)) 3 rfl ?_
      rw [bx_sd (by omega)]
      refine wp_go (f' := (5, [.ref 1, .int (nI s), .int (nI v), .int (nI (m ||| (pcN nb t))), .int (nI (sd (t &&& (t - 1)) (pcN nb t)))], [], MW A B F sw, 0, 0)) 2 rfl ?_
      refine wp_eq ?_ ih
      simp [h1]
  · skip
    refine wp_go (f' := ((if (nI 0) = 0 then 61 else 10), [.ref 1, .int (nI s), .int (nI v), .int (nI (tchN nb s v)), .int (nI 0)], [], MW A B F sw, 0, 0)) 2 rfl ?_
    refine wp_ite (fun _ => ?_) (fun h9 => absurd (rfl : nI 0 = 0) h9)
    refine wp_go (f' := (62, [.ref 1, .int (nI s), .int (nI v), .int (nI (tchN nb s v)), .int (nI 0)], [.int (nI (tchN nb s v))], MW A B F sw, 0, 0)) 1 rfl ?_
    exact wp_iret rfl
theorem ev_gSees (hC : CI A F n nb) (hR : RI A n nb) {s v : Nat} (hs : s < 2 ^ n) (hv : v < 10) : mv_Ev xs Ls 2 35 [.ref 1, .int (nI s), .int (nI v)] (MW A B F sw) (some (.int (nI (pastN nb s v))), MW A B F sw, 0, 0) := by
  refine ev_of_wp rfl rfl rfl ?_
  have hn := hC.1
  have hp := pow10 hn
  have hp1 : 1 ≤ 2 ^ n := Nat.one_le_two_pow
  have hal := all_lt hn
  refine wp_go (f' := (5, [.ref 1, .int (nI s), .int (nI v)], [.int (nI v), .ref 2], MW A B F sw, 0, 0)) 3 rfl ?_
  refine wp_iald rfl rfl (by omega) (by decide) ?_
  rw [hC.2.2.1 v (by omega)]
  have hnb := hC.2.2.2 v (by omega)
  refine wp_go (f' := (13, [.ref 1, .int (nI s), .int (nI v)], [.int (nI v), .int (nI s), .ref 1, .ref 4, .int (nI (nb v))], MW A B F sw, 0, 0)) 5 rfl ?_
  refine wp_call rfl rfl rfl (ev_up (ev_gTouched hC hR (s := s) (v := v) (by omega) (by omega)) (by decide)) ?_
  refine wp_eq (f' := (16, [.ref 1, .int (nI s), .int (nI v)], [.int (nI (tchN nb s v)), .ref 4, .int (nI (nb v))], MW A B F sw, 0, 0)) rfl ?_
  have htl := tch_lt (nb := nb) (v := v) hn (ahead := s) (by omega)
  refine wp_iald rfl rfl (by omega) (by decide) ?_
  rw [(hR (tchN nb s v) (by omega)).1]
  have hrcl := rc_lt hC.2.2.2 (tchN nb s v) (by omega)
  refine wp_go (f' := (18, [.ref 1, .int (nI s), .int (nI v)], [.int ((nI (nb v)) ||| (nI (rcN nb (tchN nb s v))))], MW A B F sw, 0, 0)) 1 rfl ?_
  rw [bx_or]
  have hb1 : (nb v) ||| (rcN nb (tchN nb s v)) < 1024 := by first | omega | exact or_lt (by omega) (by omega) | exact and_lt (by omega) | exact and_lt_r (by omega) | exact sd_lt (by omega) | exact pow_lt (by omega)
  refine wp_go (f' := (22, [.ref 1, .int (nI s), .int (nI v)], [.int ((nI ((nb v) ||| (rcN nb (tchN nb s v)))) &&& ((nI s) ^^^ (-1)))], MW A B F sw, 0, 0)) 4 rfl ?_
  rw [bx_sd (by omega)]
  have hb2 : sd ((nb v) ||| (rcN nb (tchN nb s v))) s < 1024 := by first | omega | exact or_lt (by omega) (by omega) | exact and_lt (by omega) | exact and_lt_r (by omega) | exact sd_lt (by omega) | exact pow_lt (by omega)
  refine wp_go (f' := (25, [.ref 1, .int (nI s), .int (nI v)], [.int ((nI 1) <<< ((nI v) &&& 31)), .int (nI (sd ((nb v) ||| (rcN nb (tchN nb s v))) s))], MW A B F sw, 0, 0)) 3 rfl ?_
  rw [bx_one (by omega)]
  have hb3 : 2 ^ v < 1024 := by first | omega | exact or_lt (by omega) (by omega) | exact and_lt (by omega) | exact and_lt_r (by omega) | exact sd_lt (by omega) | exact pow_lt (by omega)
  refine wp_go (f' := (28, [.ref 1, .int (nI s), .int (nI v)], [.int ((nI (sd ((nb v) ||| (rcN nb (tchN nb s v))) s)) &&& ((nI (2 ^ v)) ^^^ (-1)))], MW A B F sw, 0, 0)) 3 rfl ?_
  rw [bx_sd (by omega)]
  have hb4 : sd (sd ((nb v) ||| (rcN nb (tchN nb s v))) s) (2 ^ v) < 1024 := by first | omega | exact or_lt (by omega) (by omega) | exact and_lt (by omega) | exact and_lt_r (by omega) | exact sd_lt (by omega) | exact pow_lt (by omega)
  exact wp_iret rfl
theorem bI_mul {b : Bool} {x : Nat} : bI b * nI x = nI (if b then x else 0) := by cases b <;> simp [bI, nI0]
theorem ev_gWeight (hC : CI A F n nb) {s : Nat} (hs : s < 1024) {wt : Nat → Nat} (hw : CWt A wt) : mv_Ev xs Ls 1 79 [.ref 1, .int (nI s)] (MW A B F sw) (some (.int (nI (weightN n wt s))), MW A B F sw, 0, 0) := by
  refine ev_of_wp rfl rfl rfl ?_
  have hn := hC.1
  have hp := pow10 hn
  have hp1 : 1 ≤ 2 ^ n := Nat.one_le_two_pow
  have hal := all_lt hn
  refine wp_go (f' := (4, [.ref 1, .int (nI s), .int (nI 0), .int (nI 0)], [], MW A B F sw, 0, 0)) 4 rfl ?_
  refine for_ind (P := fun (k : Nat) (m : Nat) => mv_Wp xs Ls 0 2 false (some .int) mv_c79 (4, [.ref 1, .int (nI s), .int (nI m), .int (nI k)], [], MW A B F sw, 0, 0) (some (.int (nI (weightN n wt s))), MW A B F sw, 0, 0)) (f := fun k m => m + (if s.testBit k then wt k else 0)) (n := n) ?_ n 0 (Nat.le_refl _) ?_
  · intro k m hk ih
    refine wp_go (f' := (9, [.ref 1, .int (nI s), .int (nI m), .int (nI k)], [.int (F 0), .int (nI k)], MW A B F sw, 0, 0)) 3 rfl ?_
    rw [hC.2.1]
    refine wp_go (f' := ((if (nI n) ≤ (nI k) then 33 else 12), [.ref 1, .int (nI s), .int (nI m), .int (nI k)], [], MW A B F sw, 0, 0)) 1 rfl ?_
    refine wp_ite (fun h9 => absurd h9 (nI_ge hk (by omega))) (fun _ => ?_)
    refine wp_go (f' := (18, [.ref 1, .int (nI s), .int (nI m), .int (nI k)], [.int (((nI s) >>> ((nI k) &&& 31)) &&& (nI 1)), .int (nI m)], MW A B F sw, 0, 0)) 6 rfl ?_
    rw [bx_bit (by omega) (by omega)]
    refine wp_go (f' := (23, [.ref 1, .int (nI s), .int (nI m), .int (nI k)], [.int (nI k), .ref 3, .int (bI (s.testBit k)), .int (nI m)], MW A B F sw, 0, 0)) 3 rfl ?_
    refine wp_iald rfl rfl (by omega) (by decide) ?_
    rw [(hw k (by omega)).1]
    refine wp_go (f' := (25, [.ref 1, .int (nI s), .int (nI m), .int (nI k)], [.int ((bI (s.testBit k)) * (nI (wt k))), .int (nI m)], MW A B F sw, 0, 0)) 1 rfl ?_
    rw [bI_mul]
    refine wp_go (f' := (26, [.ref 1, .int (nI s), .int (nI m), .int (nI k)], [.int ((nI m) + (nI (if s.testBit k then wt k else 0)))], MW A B F sw, 0, 0)) 1 rfl ?_
    rw [nI_add]
    refine wp_go (f' := (30, [.ref 1, .int (nI s), .int (nI (m + (if s.testBit k then wt k else 0))), .int ((nI k) + 1)], [], MW A B F sw, 0, 0)) 2 rfl ?_
    rw [nI_1]
    refine wp_go (f' := (4, [.ref 1, .int (nI s), .int (nI (m + (if s.testBit k then wt k else 0))), .int (nI (k + 1))], [], MW A B F sw, 0, 0)) 1 rfl ?_
    refine wp_eq ?_ ih
    simp []
  · skip
    refine wp_go (f' := (9, [.ref 1, .int (nI s), .int (nI (weightN n wt s)), .int (nI n)], [.int (F 0), .int (nI n)], MW A B F sw, 0, 0)) 3 rfl ?_
    rw [hC.2.1]
    refine wp_go (f' := ((if (nI n) ≤ (nI n) then 33 else 12), [.ref 1, .int (nI s), .int (nI (weightN n wt s)), .int (nI n)], [], MW A B F sw, 0, 0)) 1 rfl ?_
    refine wp_ite (fun _ => ?_) (fun h9 => absurd (nI_le (Nat.le_refl _) (by omega)) h9)
    refine wp_go (f' := (34, [.ref 1, .int (nI s), .int (nI (weightN n wt s)), .int (nI n)], [.int (nI (weightN n wt s))], MW A B F sw, 0, 0)) 1 rfl ?_
    exact wp_iret rfl
end CC
