/-! begin, join, part, weigh: pairs of calls -/
theorem ch_two {a u : Nat} : ch (2 ^ a) u = if a = u then 1 else 0 := by
  unfold ch
  rw [Nat.testBit_two_pow]
  by_cases h : a = u
  · rw [if_pos h, decide_eq_true h]; rfl
  · rw [if_neg h, decide_eq_false h]; rfl
theorem Sm_kr {f : Nat → Nat} {l : Nat} (hl : l < 10) : Sm (fun u => f u * ch (2 ^ l) u) 10 = f l := by
  rw [← Sm_kron (f := f) 10 hl]
  exact Sm_congr _ (fun k _ => Nat.mul_comm _ _)
/-- one edge more -/
theorem edge_one {n : Nat} {nb nb' : Nat → Nat} (G : GR n nb) (G' : GR n nb') {a b : Nat} (ha : a < n) (hb : b < n) (h : ∀ u v, u < 10 → v < 10 → ad nb' u v = ad nb u v + (ch (2 ^ a) u * ch (2 ^ b) v + ch (2 ^ b) u * ch (2 ^ a) v)) : inN nb' (2 ^ n - 1) = inN nb (2 ^ n - 1) + 1 := by
  have hn := G.1
  have hp := pow10 hn
  have h1 := in_Q G (2 ^ n - 1) (by omega)
  have h2 := in_Q G' (2 ^ n - 1) (by omega)
  have ca : ch (2 ^ n - 1) a = 1 := ch_t (all_t.mpr ha)
  have cb : ch (2 ^ n - 1) b = 1 := ch_t (all_t.mpr hb)
  have hi : ∀ u, u < 10 → Sm (fun v => ch (2 ^ n - 1) v * ad nb' u v) 10 = Sm (fun v => ch (2 ^ n - 1) v * ad nb u v) 10 + (ch (2 ^ a) u + ch (2 ^ b) u) := by
    intro u hu
    have e1 : Sm (fun v => ch (2 ^ n - 1) v * ad nb' u v) 10 = Sm (fun v => ch (2 ^ n - 1) v * ad nb u v + ((ch (2 ^ n - 1) v * ch (2 ^ a) u) * ch (2 ^ b) v + (ch (2 ^ n - 1) v * ch (2 ^ b) u) * ch (2 ^ a) v)) 10 := by
      refine Sm_congr _ (fun v hv => ?_)
      rw [h u v hu hv, Nat.mul_add, Nat.mul_add, Nat.mul_assoc, Nat.mul_assoc]
    rw [e1, Sm_add, Sm_add, Sm_kr (f := fun v => ch (2 ^ n - 1) v * ch (2 ^ a) u) (show b < 10 by omega), Sm_kr (f := fun v => ch (2 ^ n - 1) v * ch (2 ^ b) u) (show a < 10 by omega), ca, cb, Nat.one_mul, Nat.one_mul]
  have hq : Qf nb' (2 ^ n - 1) (2 ^ n - 1) = Qf nb (2 ^ n - 1) (2 ^ n - 1) + 2 := by
    unfold Qf
    have e1 : Sm (fun u => ch (2 ^ n - 1) u * Sm (fun v => ch (2 ^ n - 1) v * ad nb' u v) 10) 10 = Sm (fun u => ch (2 ^ n - 1) u * Sm (fun v => ch (2 ^ n - 1) v * ad nb u v) 10 + (ch (2 ^ n - 1) u * ch (2 ^ a) u + ch (2 ^ n - 1) u * ch (2 ^ b) u)) 10 := by
      refine Sm_congr _ (fun u hu => ?_)
      rw [hi u hu, Nat.mul_add, Nat.mul_add]
    rw [e1, Sm_add, Sm_add, Sm_kr (f := fun u => ch (2 ^ n - 1) u) (show a < 10 by omega), Sm_kr (f := fun u => ch (2 ^ n - 1) u) (show b < 10 by omega), ca, cb]
  omega
/-! the graph with one edge more, one less -/
def jnN (nb : Nat → Nat) (a b : Nat) : Nat → Nat := upN (upN nb a (nb a ||| 2 ^ b)) b (nb b ||| 2 ^ a)
def paN (nb : Nat → Nat) (a b : Nat) : Nat → Nat := upN (upN nb a (sd (nb a) (2 ^ b))) b (sd (nb b) (2 ^ a))
section JP
variable {n : Nat} {nb : Nat → Nat} {a b : Nat}
theorem jo_bit (hab : a ≠ b) (u v : Nat) : (jnN nb a b u).testBit v = ((nb u).testBit v || (decide (u = a ∧ v = b) || decide (u = b ∧ v = a))) := by
  unfold jnN upN
  by_cases e1 : u = b
  · subst e1
    rw [if_pos rfl, Nat.testBit_or, Nat.testBit_two_pow]
    have h1 : decide (u = a ∧ v = u) = false := decide_eq_false (fun h => hab h.1.symm)
    rw [h1, Bool.false_or]
    congr 1
    exact decide_eq_decide.mpr ⟨fun h => ⟨rfl, h.symm⟩, fun h => h.2.symm⟩
  · rw [if_neg e1]
    have h2 : decide (u = b ∧ v = a) = false := decide_eq_false (fun h => e1 h.1)
    rw [h2, Bool.or_false]
    by_cases e2 : u = a
    · subst e2
      rw [if_pos rfl, Nat.testBit_or, Nat.testBit_two_pow]
      congr 1
      exact decide_eq_decide.mpr ⟨fun h => ⟨rfl, h.symm⟩, fun h => h.2.symm⟩
    · rw [if_neg e2]
      have h1 : decide (u = a ∧ v = b) = false := decide_eq_false (fun h => e2 h.1)
      rw [h1, Bool.or_false]
theorem pa_bit (hb : ∀ v, v < 10 → nb v < 1024) (ha : a < 10) (hb10 : b < 10) (hab : a ≠ b) (u v : Nat) : (paN nb a b u).testBit v = ((nb u).testBit v && !(decide (u = a ∧ v = b) || decide (u = b ∧ v = a))) := by
  unfold paN upN
  by_cases e1 : u = b
  · subst e1
    rw [if_pos rfl, sd_bit _ _ _ (hb u hb10), Nat.testBit_two_pow]
    have h1 : decide (u = a ∧ v = u) = false := decide_eq_false (fun h => hab h.1.symm)
    rw [h1, Bool.false_or]
    congr 2
    exact decide_eq_decide.mpr ⟨fun h => ⟨rfl, h.symm⟩, fun h => h.2.symm⟩
  · rw [if_neg e1]
    have h2 : decide (u = b ∧ v = a) = false := decide_eq_false (fun h => e1 h.1)
    rw [h2, Bool.or_false]
    by_cases e2 : u = a
    · subst e2
      rw [if_pos rfl, sd_bit _ _ _ (hb u ha), Nat.testBit_two_pow]
      congr 2
      exact decide_eq_decide.mpr ⟨fun h => ⟨rfl, h.symm⟩, fun h => h.2.symm⟩
    · rw [if_neg e2]
      have h1 : decide (u = a ∧ v = b) = false := decide_eq_false (fun h => e2 h.1)
      rw [h1, Bool.not_false, Bool.and_true]
theorem jo_gr (G : GR n nb) (ha : a < n) (hb : b < n) (hab : a ≠ b) : GR n (jnN nb a b) := by
  obtain ⟨g1, g2, g3, g4, g5⟩ := G
  refine ⟨g1, fun v hv => ?_, fun v h1 h2 => ?_, fun u v hu h => ?_, fun v hv => ?_⟩
  · unfold jnN upN
    by_cases e1 : v = b
    · rw [if_pos e1]; exact or_ltn (g2 b (by omega)) ha
    · rw [if_neg e1]
      by_cases e2 : v = a
      · rw [if_pos e2]; exact or_ltn (g2 a (by omega)) hb
      · rw [if_neg e2]; exact g2 v hv
  · unfold jnN upN
    rw [if_neg (by omega), if_neg (by omega)]
    exact g3 v h1 h2
  · rw [jo_bit hab] at h ⊢
    simp only [Bool.or_eq_true, decide_eq_true_eq] at h ⊢
    rcases h with h | h | h
    · exact Or.inl (g4 u v hu h)
    · exact Or.inr (Or.inr ⟨h.2, h.1⟩)
    · exact Or.inr (Or.inl ⟨h.2, h.1⟩)
  · rw [jo_bit hab, g5 v hv, decide_eq_false (fun h => hab (h.1.symm.trans h.2)), decide_eq_false (fun h => hab (h.2.symm.trans h.1))]
    rfl
theorem pa_gr (G : GR n nb) (ha : a < n) (hb : b < n) (hab : a ≠ b) : GR n (paN nb a b) := by
  have h1024 := gr_1024 G
  obtain ⟨g1, g2, g3, g4, g5⟩ := G
  have pb := fun u v => pa_bit (nb := nb) h1024 (show a < 10 by omega) (show b < 10 by omega) hab u v
  refine ⟨g1, fun v hv => ?_, fun v h1 h2 => ?_, fun u v hu h => ?_, fun v hv => ?_⟩
  · unfold paN upN
    by_cases e1 : v = b
    · rw [if_pos e1]; exact Nat.lt_of_le_of_lt sd_le (g2 b (by omega))
    · rw [if_neg e1]
      by_cases e2 : v = a
      · rw [if_pos e2]; exact Nat.lt_of_le_of_lt sd_le (g2 a (by omega))
      · rw [if_neg e2]; exact g2 v hv
  · unfold paN upN
    rw [if_neg (by omega), if_neg (by omega)]
    exact g3 v h1 h2
  · rw [pb] at h ⊢
    simp only [Bool.and_eq_true, Bool.not_eq_true', Bool.or_eq_false_iff, decide_eq_false_iff_not] at h ⊢
    exact ⟨g4 u v hu h.1, fun h9 => h.2.2 ⟨h9.2, h9.1⟩, fun h9 => h.2.1 ⟨h9.2, h9.1⟩⟩
  · rw [pb, g5 v hv]; rfl
theorem b_nat (p q : Bool) (h : (p && q) = false) : (p || q).toNat = p.toNat + q.toNat := by
  cases p <;> cases q <;> first | rfl | cases h
theorem dec_nat {a b u v : Nat} : (decide (u = a ∧ v = b)).toNat = ch (2 ^ a) u * ch (2 ^ b) v := by
  rw [ch_two, ch_two]
  by_cases h1 : u = a
  · by_cases h2 : v = b
    · rw [decide_eq_true (show u = a ∧ v = b from ⟨h1, h2⟩), if_pos h1.symm, if_pos h2.symm]; rfl
    · rw [decide_eq_false (p := u = a ∧ v = b) (fun h => h2 h.2), if_neg (show ¬ b = v from fun h => h2 h.symm), Nat.mul_zero]; rfl
  · rw [decide_eq_false (p := u = a ∧ v = b) (fun h => h1 h.1), if_neg (show ¬ a = u from fun h => h1 h.symm), Nat.zero_mul]; rfl
theorem kk_dec (hab : a ≠ b) (u v : Nat) : (decide (u = a ∧ v = b) || decide (u = b ∧ v = a)).toNat = ch (2 ^ a) u * ch (2 ^ b) v + ch (2 ^ b) u * ch (2 ^ a) v := by
  rw [b_nat _ _ (by
    by_cases h : u = a
    · rw [decide_eq_false (p := u = b ∧ v = a) (fun h9 => hab (h.symm.trans h9.1)), Bool.and_false]
    · rw [decide_eq_false (p := u = a ∧ v = b) (fun h9 => h h9.1), Bool.false_and])]
  rw [dec_nat, dec_nat]
theorem jo_ad (hab : a ≠ b) (hs : (nb b).testBit a = false) (hx : (nb a).testBit b = false) (u v : Nat) : ad (jnN nb a b) u v = ad nb u v + (ch (2 ^ a) u * ch (2 ^ b) v + ch (2 ^ b) u * ch (2 ^ a) v) := by
  unfold ad
  rw [jo_bit hab, b_nat _ _ ?_, kk_dec hab]
  by_cases h1 : u = a ∧ v = b
  · rw [h1.1, h1.2, hx, Bool.false_and]
  · by_cases h2 : u = b ∧ v = a
    · rw [h2.1, h2.2, hs, Bool.false_and]
    · rw [decide_eq_false h1, decide_eq_false h2]
      exact Bool.and_false _
theorem pa_ad (hb : ∀ v, v < 10 → nb v < 1024) (ha : a < 10) (hb10 : b < 10) (hab : a ≠ b) (hs : (nb b).testBit a = true) (hx : (nb a).testBit b = true) (u v : Nat) : ad nb u v = ad (paN nb a b) u v + (ch (2 ^ a) u * ch (2 ^ b) v + ch (2 ^ b) u * ch (2 ^ a) v) := by
  unfold ad
  rw [pa_bit hb ha hb10 hab, ← kk_dec hab]
  by_cases h1 : u = a ∧ v = b
  · rw [decide_eq_true h1, h1.1, h1.2, hx]; rfl
  · by_cases h2 : u = b ∧ v = a
    · rw [decide_eq_true h2, h2.1, h2.2, hs, Bool.or_true]; rfl
    · rw [decide_eq_false h1, decide_eq_false h2]
      simp
theorem jo_ed (G : GR n nb) (ha : a < n) (hb : b < n) (hab : a ≠ b) (hx : (nb a).testBit b = false) : inN (jnN nb a b) (2 ^ n - 1) = inN nb (2 ^ n - 1) + 1 := by
  refine edge_one G (jo_gr G ha hb hab) ha hb (fun u v _ _ => jo_ad hab ?_ hx u v)
  cases h : (nb b).testBit a with
  | false => rfl
  | true => rw [gr_sym G hb h] at hx; cases hx
theorem pa_ed (G : GR n nb) (ha : a < n) (hb : b < n) (hab : a ≠ b) (hx : (nb a).testBit b = true) : inN nb (2 ^ n - 1) = inN (paN nb a b) (2 ^ n - 1) + 1 := by
  have hn := G.1
  exact edge_one (pa_gr G ha hb hab) G ha hb (fun u v _ _ => pa_ad (gr_1024 G) (by omega) (by omega) hab (gr_sym G ha hx) hx u v)
theorem upd_row {g : Nat → Int32} {h : Nat → Nat} {x : Nat} (hh : ∀ u, u < 10 → g u = nI (h u)) : ∀ u, u < 10 → upd g a (nI x) u = nI (upN h a x u) := by
  intro u hu
  unfold upN
  by_cases e : u = a
  · rw [e, pk_us, if_pos rfl]
  · rw [pk_un e, if_neg e]; exact hh u hu
theorem gre_0 (hn : n ≤ 10) : GR n (fun _ => 0) := ⟨hn, fun _ _ => Nat.two_pow_pos n, fun _ _ _ => rfl, fun u v _ h => (by rw [Nat.zero_testBit] at h; cases h), fun v _ => Nat.zero_testBit v⟩
theorem ine_0 (hn : n ≤ 10) : inN (fun _ => 0) (2 ^ n - 1) = 0 := by
  have hp := pow10 hn
  have h := in_Q (gre_0 hn) (2 ^ n - 1) (by omega)
  have hq : Qf (fun _ => 0) (2 ^ n - 1) (2 ^ n - 1) = 0 := by
    unfold Qf
    rw [Sm_congr (g := fun _ => 0) 10 (fun u _ => ?_), Sm_0]
    rw [Sm_congr (g := fun _ => 0) 10 (fun v _ => ?_), Sm_0, Nat.mul_zero]
    unfold ad
    rw [Nat.zero_testBit]
    exact Nat.mul_zero _
  omega
theorem clw_ok (A : Nat → Nat → Int32) (x y : Nat) : ∀ k, k < 10 → (cleared A x y).1 k = nI 0 ∧ (cleared A x y).2 k = nI 1 := by
  unfold cleared
  refine forN_inv (I := fun j (q : (Nat → Int32) × (Nat → Int32)) => ∀ k, k < j → q.1 k = nI 0 ∧ q.2 k = nI 1) (fun k hk => absurd hk (Nat.not_lt_zero _)) (fun j q hj hq => ?_) 10 (Nat.le_refl _)
  intro k hk
  try dsimp only
  by_cases e : k = j
  · rw [e, pk_us, pk_us]; exact ⟨rfl, rfl⟩
  · rw [pk_un e, pk_un e]; exact hq k (by omega)
end JP
section PAIRC
variable {xs : Nat → Int32} {Ls : Nat} {A A1 A2 : Nat → Nat → Int32} {B B1 B2 : Nat → Nat → Int64} {F F1 F2 : Nat → Int32} {sw sw1 sw2 : Bool} {n ed c n2 ed2 : Nat} {nb wt nb2 wt2 : Nat → Nat}
/-- the graph has changed: one change more -/
theorem vv_new (I : INV A F n nb ed wt c) (hc : c < 1000000) (hA : ∀ k, 4 ≤ k → k ≤ 22 → A2 k = A k) (f0 : F2 0 = nI n2) (f1 : F2 1 = nI ed2) (f2 : F2 2 = F 2 + nI 1) (f3 : F2 3 = F 3) (f4 : F2 4 = F 4) (f5 : F2 5 = F 5) (f6 : F2 6 = nI n2) (f7 : F2 7 = nI ed2) (a2 : ∀ v, v < 10 → A2 2 v = nI (nb2 v)) (a3 : CWt A2 wt2) (a29 : ∀ v, v < 10 → A2 29 v = nI (nb2 v)) (a30 : MWt A2 wt2) (G : GR n2 nb2) (he : inN nb2 (2 ^ n2 - 1) = ed2) (h20 : ed2 ≤ 20) : INV A2 F2 n2 nb2 ed2 wt2 (c + 1) := by
  obtain ⟨⟨_, hz, hr, _, _, st, o1, o2, o3, ⟨hh, o4⟩, o5⟩, _, _, cc, c1, c2, c3, c4⟩ := I
  have e2 : F2 2 = nI (cc + 1) := by rw [f2, c1, nI_add]
  have ne : ∀ y : Int32, (y = -1 ∨ ∃ x, y = nI x ∧ x ≤ cc) → y ≠ nI (cc + 1) := by
    intro y hy e
    rcases hy with h | ⟨x, h, hx⟩
    · rw [h] at e; exact nI_n1 (t := cc + 1) (by omega) e.symm
    · rw [h] at e
      have := (nI_eq (a := x) (b := cc + 1) (by omega) (by omega)).mp e
      omega
  have up : ∀ y : Int32, (y = -1 ∨ ∃ x, y = nI x ∧ x ≤ cc) → (y = -1 ∨ ∃ x, y = nI x ∧ x ≤ cc + 1) := by
    intro y hy
    rcases hy with h | ⟨x, h, hx⟩
    · exact Or.inl h
    · exact Or.inr ⟨x, h, by omega⟩
  refine ⟨⟨⟨G.1, f0, a2, gr_1024 G⟩, ?_, fun h => absurd (by rw [← e2, ← h, f3]) (ne _ c3), f1, a3, st, by rw [f4]; exact o1, o2, fun h => absurd (by rw [← e2, ← h, f5]) (ne _ c4), ⟨hh, ?_⟩, by rw [hA 11 (by omega) (by omega)]; exact o5⟩, ⟨⟨G.1, f6, a29, gr_1024 G⟩, f7, a30⟩, ⟨G, he, h20⟩, cc + 1, e2, by omega, by rw [f3]; exact up _ c3, by rw [f5]; exact up _ c4⟩
  · unfold CZ
    rw [hA 4 (by omega) (by omega), hA 5 (by omega) (by omega), hA 6 (by omega) (by omega)]; exact hz
  · unfold HI
    rw [hA 19 (by omega) (by omega), hA 21 (by omega) (by omega), hA 22 (by omega) (by omega)]; exact o4
theorem b_rng {x : Int32} {m : Nat} (h : outN x m = true) : (decide (nI 0 ≤ x) && decide (x ≤ nI m)) = false := by
  unfold outN at h
  cases h2 : (decide (nI 0 ≤ x) && decide (x ≤ nI m)) with
  | false => rfl
  | true => rw [h2] at h; cases h
theorem b_rng1 {k m : Nat} (h : k ≤ m) (hm : m < 2 ^ 31) : (decide (nI 0 ≤ nI k) && decide (nI k ≤ nI m)) = true := by
  rw [decide_eq_true (nI_le (Nat.zero_le _) (by omega)), decide_eq_true (nI_le h (by omega))]; rfl
theorem pr_begin (I : INV A F n nb ed wt c) (hc : c < 1000000) (x : Int32) : PRI xs Ls 6 84 [.int x] A B F sw c := by
  rcases i_cs x with hx | ⟨k, hk, rfl⟩
  · exact pri_mk (ev_bBegin_f1 hx) (ev_begin_f (b_rng (i_neg (by omega) hx))) rfl I (by omega) (by omega)
  · by_cases h10 : k ≤ 10
    · refine pri_mk1 (ev_bBegin_ok (nI_pos (by omega)) (nI_le h10 (by omega))) (ev_begin_ok (b_rng1 h10 (by omega))) ?_ (n := k) (nb := fun _ => 0) (ed := 0) (wt := fun _ => 1) ?_ (by omega) (by omega)
      · exact (vv_ci I).2.1.trans (vv_mi I).2.1.symm
      · refine vv_new I hc (fun k h1 h2 => ?_) rfl rfl rfl rfl rfl rfl rfl rfl (fun v hv => (clw_ok _ _ _ v hv).1) (fun v hv => ⟨(clw_ok _ _ _ v hv).2, by omega⟩) (fun v hv => (clw_ok _ _ _ v hv).1) (fun v hv => ⟨(clw_ok _ _ _ v hv).2, by omega⟩) (gre_0 h10) (ine_0 h10) (by omega)
        rw [upA_ne (by omega), upA_ne (by omega), upA_ne (by omega), upA_ne (by omega)]
    · exact pri_mk (ev_bBegin_f2 (nI_pos (by omega)) (fun h => h10 ((nI_leI hk (by omega)).mp h))) (ev_begin_f (b_rng (i_big hk (by omega) (by omega)))) rfl I (by omega) (by omega)
theorem mi_up2 (hM : MI A F n nb) {f : Nat → Int32} {x y : Int32} : MI (upA A 2 f) (upF (upF F 1 x) 2 y) n nb := hM
theorem e7_up2 (h : F 7 = nI ed) {x y : Int32} : upF (upF F 1 x) 2 y 7 = nI ed := h
theorem mi_up3 (hM : MI A F n nb) {f : Nat → Int32} : MI (upA A 3 f) F n nb := hM
theorem mw_up3 (hw : MWt A wt) {f : Nat → Int32} : MWt (upA A 3 f) wt := hw
theorem pr_join (I : INV A F n nb ed wt c) (hc : c < 1000000) (x y : Int32) : PRI xs Ls 8 86 [.int x, .int y] A B F sw c := by
  have hn := vv_n I
  have hCW := vv_cw I
  have hMW := vv_mw I
  have hMI := vv_mi I
  have h20 := vv_20 I
  rcases isV_cs x hn with h | ⟨a, ha, rfl⟩
  · exact pri_mk (ev_bJoin_f1 (vv_ci I) h) (ev_join_f1 (vv_mi I) h) rfl I (by omega) (by omega)
  · rcases isV_cs y hn with h | ⟨b, hb, rfl⟩
    · exact pri_mk (ev_bJoin_f2 (vv_ci I) ha h) (ev_join_f2 (vv_mi I) ha h) rfl I (by omega) (by omega)
    · by_cases hab : a = b
      · subst hab
        exact pri_mk (ev_bJoin_f3 (vv_ci I) ha) (ev_join_f3 (vv_mi I) ha) rfl I (by omega) (by omega)
      · cases hx : (nb a).testBit b with
        | true => exact pri_mk (ev_bJoin_there (vv_ci I) (vv_e1 I) h20 ha hb hab hx) (ev_join_there (vv_mi I) (vv_e7 I) h20 ha hb hab hx) rfl I (by omega) (by omega)
        | false =>
          by_cases he : ed = 20
          · exact pri_mk (ev_bJoin_full (vv_ci I) (vv_e1 I) h20 ha hb hab hx he) (ev_join_full (vv_mi I) (vv_e7 I) h20 ha hb hab hx he) rfl I (by omega) (by omega)
          · refine pri_mk1 (d1 := 2) (d2 := 3) (ev_bJoin_ok (vv_ci I) (vv_e1 I) h20 ha hb hab hx he) (ev_join_ok (mi_up2 (vv_mi I)) (e7_up2 (vv_e7 I)) h20 ha hb hab hx he) rfl (n := n) (nb := jnN nb a b) (ed := ed + 1) (wt := wt) ?_ (by omega) (by omega)
            refine vv_new I hc (fun k h1 h2 => by rw [upA_ne (by omega), upA_ne (by omega)]) (vv_ci I).2.1 rfl rfl rfl rfl rfl (vv_mi I).2.1 rfl (upd_row (upd_row (vv_ci I).2.2.1)) hCW (upd_row (upd_row (vv_mi I).2.2.1)) hMW (jo_gr (vv_g I) ha hb hab) ?_ (by omega)
            rw [jo_ed (vv_g I) ha hb hab hx, vv_ed I]
theorem pr_part (I : INV A F n nb ed wt c) (hc : c < 1000000) (x y : Int32) : PRI xs Ls 12 89 [.int x, .int y] A B F sw c := by
  have hn := vv_n I
  have hCW := vv_cw I
  have hMW := vv_mw I
  have hMI := vv_mi I
  have h20 := vv_20 I
  rcases isV_cs x hn with h | ⟨a, ha, rfl⟩
  · exact pri_mk (ev_bPart_f1 (vv_ci I) h) (ev_part_f1 (vv_mi I) h) rfl I (by omega) (by omega)
  · rcases isV_cs y hn with h | ⟨b, hb, rfl⟩
    · exact pri_mk (ev_bPart_f2 (vv_ci I) ha h) (ev_part_f2 (vv_mi I) ha h) rfl I (by omega) (by omega)
    · cases hx : (nb a).testBit b with
      | false => exact pri_mk (ev_bPart_none (vv_ci I) ha hb hx) (ev_part_none (vv_mi I) (vv_e7 I) h20 ha hb hx) rfl I (by omega) (by omega)
      | true =>
        have hab : a ≠ b := fun e => by
          have h9 := (vv_g I).2.2.2.2 a ha
          rw [← e] at hx
          rw [hx] at h9; cases h9
        have h1 := pa_ed (vv_g I) ha hb hab hx
        rw [vv_ed I] at h1
        refine pri_mk1 (d1 := 2) (d2 := 3) (ev_bPart_ok (vv_ci I) (vv_e1 I) h20 ha hb hab (by omega) hx) (ev_part_ok (mi_up2 (vv_mi I)) (e7_up2 (vv_e7 I)) h20 ha hb hab (by omega) hx) rfl (n := n) (nb := paN nb a b) (ed := ed - 1) (wt := wt) ?_ (by omega) (by omega)
        exact vv_new I hc (fun k h1 h2 => by rw [upA_ne (by omega), upA_ne (by omega)]) (vv_ci I).2.1 rfl rfl rfl rfl rfl (vv_mi I).2.1 rfl (upd_row (upd_row (vv_ci I).2.2.1)) hCW (upd_row (upd_row (vv_mi I).2.2.1)) hMW (pa_gr (vv_g I) ha hb hab) (by omega) (by omega)
/-- a weight has changed -/
theorem vv_wt (I : INV A F n nb ed wt c) (hA : ∀ k, (4 ≤ k ∧ k ≤ 22) ∨ k = 2 ∨ k = 29 → A2 k = A k) (a3 : CWt A2 wt2) (a30 : MWt A2 wt2) : INV A2 F n nb ed wt2 c := by
  obtain ⟨⟨⟨a1, a2, a3', a4⟩, hz, hr, he, hw, st, o1, o2, o3, ⟨hh, o4⟩, o5⟩, ⟨⟨b1, b2, b3, b4⟩, he7, hmw⟩, hg, hct⟩ := I
  refine ⟨⟨⟨a1, a2, by rw [hA 2 (by omega)]; exact a3', a4⟩, ?_, ?_, he, a3, st, o1, o2, ?_, ⟨hh, ?_⟩, by rw [hA 11 (by omega)]; exact o5⟩, ⟨⟨b1, b2, by rw [hA 29 (by omega)]; exact b3, b4⟩, he7, a30⟩, hg, hct⟩
  · unfold CZ
    rw [hA 4 (by omega), hA 5 (by omega), hA 6 (by omega)]; exact hz
  · unfold RI
    rw [hA 4 (by omega), hA 5 (by omega), hA 6 (by omega)]; exact hr
  · intro e k hk hb
    have := o3 e k hk hb
    unfold KD at this ⊢
    rw [hA (9 + k) (by omega), hA 15 (by omega)]; exact this
  · unfold HI
    rw [hA 19 (by omega), hA 21 (by omega), hA 22 (by omega)]; exact o4
theorem pr_weigh (I : INV A F n nb ed wt c) (x y : Int32) : PRI xs Ls 14 90 [.int x, .int y] A B F sw c := by
  have hn := vv_n I
  have hCW := vv_cw I
  have hMW := vv_mw I
  have hMI := vv_mi I
  rcases isV_cs x hn with h | ⟨a, ha, rfl⟩
  · exact pri_mk (ev_bWeigh_f1 (vv_ci I) h) (ev_weigh_f1 (vv_mi I) h) rfl I (by omega) (by omega)
  · rcases i_cs y with hy | ⟨q, hq, rfl⟩
    · refine pri_mk (ev_bWeigh_f2 (vv_ci I) ha hy) (ev_weigh_f2 (vv_mi I) ha ?_) rfl I (by omega) (by omega)
      rw [decide_eq_false (p := nI 0 ≤ y) (fun h9 => absurd (show y < nI 0 from hy) (Int32.not_lt.mpr h9))]; rfl
    · by_cases h1000 : q ≤ 1000
      · have hM2 : MI (upA A 3 (upd (A 3) a (nI q))) F n nb := hMI
        have hW2 : MWt (upA A 3 (upd (A 3) a (nI q))) wt := hMW
        refine pri_mk (d1 := 2) (d2 := 3) (ev_bWeigh_ok (vv_ci I) (vv_cw I) ha (nI_pos (by omega)) (nI_le h1000 (by omega))) (ev_weigh_ok hM2 hW2 ha (b_rng1 h1000 (by omega))) rfl (n := n) (nb := nb) (ed := ed) (wt := upN wt a q) ?_ (by omega) (by omega)
        exact vv_wt I (fun k hk => by rw [upA_ne (by omega), upA_ne (by omega)]) (upd_up hCW h1000) (upd_up hMW h1000)
      · have h9 : ¬ nI q ≤ nI 1000 := fun h => h1000 ((nI_leI hq (by omega)).mp h)
        refine pri_mk (ev_bWeigh_f3 (vv_ci I) ha (nI_pos (by omega)) h9) (ev_weigh_f2 (vv_mi I) ha ?_) rfl I (by omega) (by omega)
        rw [decide_eq_false h9, Bool.and_false]
end PAIRC
