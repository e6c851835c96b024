/-! the invariant of the whole run: both objects hold the same graph (n, nb), with ed edges and weights wt; c bounds the changes -/
def CT (F : Nat → Int32) (c : Nat) : Prop := ∃ cc, F 2 = nI cc ∧ cc ≤ c ∧ (F 3 = -1 ∨ ∃ x, F 3 = nI x ∧ x ≤ cc) ∧ (F 5 = -1 ∨ ∃ x, F 5 = nI x ∧ x ≤ cc)
def INV (A : Nat → Nat → Int32) (F : Nat → Int32) (n : Nat) (nb : Nat → Nat) (ed : Nat) (wt : Nat → Nat) (c : Nat) : Prop := (CI A F n nb ∧ CZ A ∧ (F 3 = F 2 → RI A n nb) ∧ F 1 = nI ed ∧ CWt A wt ∧ OI A F n nb ed) ∧ (MI A F n nb ∧ F 7 = nI ed ∧ MWt A wt) ∧ (GR n nb ∧ inN nb (2 ^ n - 1) = ed ∧ ed ≤ 20) ∧ CT F c
section INVS
variable {A A2 : Nat → Nat → Int32} {F F2 : Nat → Int32} {n ed c : Nat} {nb wt : Nat → Nat}
theorem vv_ci (h : INV A F n nb ed wt c) : CI A F n nb := h.1.1
theorem vv_cz (h : INV A F n nb ed wt c) : CZ A := h.1.2.1
theorem vv_ri (h : INV A F n nb ed wt c) : F 3 = F 2 → RI A n nb := h.1.2.2.1
theorem vv_e1 (h : INV A F n nb ed wt c) : F 1 = nI ed := h.1.2.2.2.1
theorem vv_cw (h : INV A F n nb ed wt c) : CWt A wt := h.1.2.2.2.2.1
theorem vv_oi (h : INV A F n nb ed wt c) : OI A F n nb ed := h.1.2.2.2.2.2
theorem vv_mi (h : INV A F n nb ed wt c) : MI A F n nb := h.2.1.1
theorem vv_e7 (h : INV A F n nb ed wt c) : F 7 = nI ed := h.2.1.2.1
theorem vv_mw (h : INV A F n nb ed wt c) : MWt A wt := h.2.1.2.2
theorem vv_g (h : INV A F n nb ed wt c) : GR n nb := h.2.2.1.1
theorem vv_ed (h : INV A F n nb ed wt c) : inN nb (2 ^ n - 1) = ed := h.2.2.1.2.1
theorem vv_20 (h : INV A F n nb ed wt c) : ed ≤ 20 := h.2.2.1.2.2
theorem vv_ct (h : INV A F n nb ed wt c) : CT F c := h.2.2.2
theorem vv_n (h : INV A F n nb ed wt c) : n ≤ 10 := (vv_g h).1
theorem vv_hq (h : INV A F n nb ed wt c) : CEd n nb ed := CEd_ok (vv_g h) (vv_ed h) (vv_20 h)
theorem vv_up (h : INV A F n nb ed wt c) : INV A F n nb ed wt (c + 1) := by
  obtain ⟨h1, h2, h3, cc, e, hc, r⟩ := h
  exact ⟨h1, h2, h3, cc, e, by omega, r⟩
/-- cells past 22 but for 29, 30, and the reference's found: no matter -/
theorem vv_ref (h : INV A F n nb ed wt c) (hA : ∀ k, k ≤ 22 ∨ k = 29 ∨ k = 30 → A2 k = A k) (hF : ∀ k, k ≤ 7 → F2 k = F k) : INV A2 F2 n nb ed wt c := by
  obtain ⟨⟨⟨a1, a2, a3, a4⟩, hz, hr, he, hw, st, o1, o2, o3, ⟨hh, o4⟩, o5⟩, ⟨⟨b1, b2, b3, b4⟩, he7, hmw⟩, hg, cc, c1, c2, c3, c4⟩ := h
  refine ⟨⟨⟨a1, by rw [hF 0 (by omega)]; exact a2, by rw [hA 2 (by omega)]; exact a3, a4⟩, ?_, ?_, by rw [hF 1 (by omega)]; exact he, ?_, st, by rw [hF 4 (by omega)]; exact o1, o2, ?_, ⟨hh, ?_⟩, by rw [hA 11 (by omega)]; exact o5⟩, ⟨⟨b1, by rw [hF 6 (by omega)]; exact b2, by rw [hA 29 (by omega)]; exact b3, b4⟩, by rw [hF 7 (by omega)]; exact he7, ?_⟩, hg, cc, ?_⟩
  · unfold CZ
    rw [hA 4 (by omega), hA 5 (by omega), hA 6 (by omega)]; exact hz
  · rw [hF 3 (by omega), hF 2 (by omega)]
    unfold RI
    rw [hA 4 (by omega), hA 5 (by omega), hA 6 (by omega)]; exact hr
  · unfold CWt
    rw [hA 3 (by omega)]; exact hw
  · rw [hF 5 (by omega), hF 2 (by omega)]
    intro e k hk hb
    have := o3 e k hk hb
    unfold KD at this ⊢
    rw [hA (9 + k) (by omega), hA 15 (by omega)]; exact this
  · unfold HI
    rw [hA 19 (by omega), hA 21 (by omega), hA 22 (by omega)]; exact o4
  · unfold MWt
    rw [hA 30 (by omega)]; exact hmw
  · rw [hF 2 (by omega), hF 3 (by omega), hF 5 (by omega)]
    exact ⟨c1, c2, c3, c4⟩
/-- the class has made its rows -/
theorem vv_rows (h : INV A F n nb ed wt c) {r4 r5 r6 : Nat → Int32} (hR : RI (upA (upA (upA A 4 r4) 5 r5) 6 r6) n nb) (hZ : CZ (upA (upA (upA A 4 r4) 5 r5) 6 r6)) : INV (upA (upA (upA A 4 r4) 5 r5) 6 r6) (upF F 3 (F 2)) n nb ed wt c := by
  obtain ⟨⟨⟨a1, a2, a3, a4⟩, hz, hr, he, hw, st, o1, o2, o3, ⟨hh, o4⟩, o5⟩, ⟨⟨b1, b2, b3, b4⟩, he7, hmw⟩, hg, cc, c1, c2, c3, c4⟩ := h
  refine ⟨⟨⟨a1, a2, a3, a4⟩, hZ, fun _ => hR, he, hw, st, o1, o2, ?_, ⟨hh, o4⟩, o5⟩, ⟨⟨b1, b2, b3, b4⟩, he7, hmw⟩, hg, cc, c1, c2, Or.inr ⟨cc, c1, Nat.le_refl _⟩, c4⟩
  intro e k hk hb
  have := o3 e k hk hb
  unfold KD at this ⊢
  rw [upA_ne (by omega), upA_ne (by omega), upA_ne (by omega)]
  exact this
/-- the class has settled a row -/
theorem vv_sp (h : INV A F n nb ed wt c) {kd : Nat} (s : SP A A2 F F2 n nb ed kd) : INV A2 F2 n nb ed wt c := by
  obtain ⟨⟨⟨a1, a2, a3, a4⟩, hz, hr, he, hw, ho⟩, ⟨⟨b1, b2, b3, b4⟩, he7, hmw⟩, hg, cc, c1, c2, c3, c4⟩ := h
  obtain ⟨s1, s2, s3, s4, s5, s6, s7, s8⟩ := s
  have f2 : F2 2 = nI cc := by rw [s2 2 (by omega) (by omega) (by omega)]; exact c1
  refine ⟨⟨⟨a1, by rw [s2 0 (by omega) (by omega) (by omega)]; exact a2, by rw [s1 2 (by omega)]; exact a3, a4⟩, s5, fun _ => s4, by rw [s2 1 (by omega) (by omega) (by omega)]; exact he, ?_, s6⟩, ⟨⟨b1, by rw [s2 6 (by omega) (by omega) (by omega)]; exact b2, by rw [s1 29 (by omega)]; exact b3, b4⟩, by rw [s2 7 (by omega) (by omega) (by omega)]; exact he7, ?_⟩, hg, cc, f2, c2, Or.inr ⟨cc, by rw [s3]; exact f2, Nat.le_refl _⟩, Or.inr ⟨cc, by rw [s8]; exact f2, Nat.le_refl _⟩⟩
  · unfold CWt
    rw [s1 3 (by omega)]; exact hw
  · unfold MWt
    rw [s1 30 (by omega)]; exact hmw
end INVS
/-! a pair of calls: the class's, then the reference's: the same answer, and the invariant again -/
def PAIR (xs : Nat → Int32) (Ls : Nat) (j1 j2 : Nat) (as : List Value) (A : Nat → Nat → Int32) (B : Nat → Nat → Int64) (F : Nat → Int32) (sw : Bool) (c : Nat) : Prop := ∃ (v : Value) (w1 : mv_W) (A2 : Nat → Nat → Int32) (B2 : Nat → Nat → Int64) (F2 : Nat → Int32) (sw2 : Bool) (n : Nat) (nb : Nat → Nat) (ed : Nat) (wt : Nat → Nat), mv_Ev xs Ls 20 j1 (.ref 0 :: as) (MW A B F sw) (some v, w1, 0, 0) ∧ mv_Ev xs Ls 20 j2 (.ref 28 :: as) w1 (some v, MW A2 B2 F2 sw2, 0, 0) ∧ INV A2 F2 n nb ed wt (c + 1)
/-- an int is answered -/
def PRI (xs : Nat → Int32) (Ls : Nat) (j1 j2 : Nat) (as : List Value) (A : Nat → Nat → Int32) (B : Nat → Nat → Int64) (F : Nat → Int32) (sw : Bool) (c : Nat) : Prop := ∃ (x : Int32) (A1 : Nat → Nat → Int32) (B1 : Nat → Nat → Int64) (F1 : Nat → Int32) (sw1 : Bool) (A2 : Nat → Nat → Int32) (B2 : Nat → Nat → Int64) (F2 : Nat → Int32) (sw2 : Bool) (n : Nat) (nb : Nat → Nat) (ed : Nat) (wt : Nat → Nat), mv_Ev xs Ls 18 j1 (.ref 0 :: as) (MW A B F sw) (some (.int x), MW A1 B1 F1 sw1, 0, 0) ∧ mv_Ev xs Ls 18 j2 (.ref 28 :: as) (MW A1 B1 F1 sw1) (some (.int x), MW A2 B2 F2 sw2, 0, 0) ∧ INV A2 F2 n nb ed wt (c + 1)
/-- a long is answered -/
def PRL (xs : Nat → Int32) (Ls : Nat) (j1 j2 : Nat) (as : List Value) (A : Nat → Nat → Int32) (B : Nat → Nat → Int64) (F : Nat → Int32) (sw : Bool) (c : Nat) : Prop := ∃ (x : Int64) (A1 : Nat → Nat → Int32) (B1 : Nat → Nat → Int64) (F1 : Nat → Int32) (sw1 : Bool) (A2 : Nat → Nat → Int32) (B2 : Nat → Nat → Int64) (F2 : Nat → Int32) (sw2 : Bool) (n : Nat) (nb : Nat → Nat) (ed : Nat) (wt : Nat → Nat), mv_Ev xs Ls 18 j1 (.ref 0 :: as) (MW A B F sw) (some (.long x), MW A1 B1 F1 sw1, 0, 0) ∧ mv_Ev xs Ls 18 j2 (.ref 28 :: as) (MW A1 B1 F1 sw1) (some (.long x), MW A2 B2 F2 sw2, 0, 0) ∧ INV A2 F2 n nb ed wt (c + 1)
section PAIRS
variable {xs : Nat → Int32} {Ls : Nat} {A A1 A2 : Nat → Nat → Int32} {B B1 B2 : Nat → Nat → Int64} {F F1 F2 : Nat → Int32} {sw sw1 sw2 : Bool} {n ed c j1 j2 d1 d2 : Nat} {nb wt : Nat → Nat} {as : List Value}
theorem pri_mk {x y : Int32} (h1 : mv_Ev xs Ls d1 j1 (.ref 0 :: as) (MW A B F sw) (some (.int x), MW A1 B1 F1 sw1, 0, 0)) (h2 : mv_Ev xs Ls d2 j2 (.ref 28 :: as) (MW A1 B1 F1 sw1) (some (.int y), MW A2 B2 F2 sw2, 0, 0)) (hxy : x = y) (I : INV A2 F2 n nb ed wt c) (hd1 : d1 ≤ 18) (hd2 : d2 ≤ 18) : PRI xs Ls j1 j2 as A B F sw c := by
  subst hxy
  exact ⟨x, A1, B1, F1, sw1, A2, B2, F2, sw2, n, nb, ed, wt, ev_up h1 hd1, ev_up h2 hd2, vv_up I⟩
theorem pri_mk1 {x y : Int32} (h1 : mv_Ev xs Ls d1 j1 (.ref 0 :: as) (MW A B F sw) (some (.int x), MW A1 B1 F1 sw1, 0, 0)) (h2 : mv_Ev xs Ls d2 j2 (.ref 28 :: as) (MW A1 B1 F1 sw1) (some (.int y), MW A2 B2 F2 sw2, 0, 0)) (hxy : x = y) (I : INV A2 F2 n nb ed wt (c + 1)) (hd1 : d1 ≤ 18) (hd2 : d2 ≤ 18) : PRI xs Ls j1 j2 as A B F sw c := by
  subst hxy
  exact ⟨x, A1, B1, F1, sw1, A2, B2, F2, sw2, n, nb, ed, wt, ev_up h1 hd1, ev_up h2 hd2, I⟩
theorem prl_mk {x y : Int64} (h1 : mv_Ev xs Ls d1 j1 (.ref 0 :: as) (MW A B F sw) (some (.long x), MW A1 B1 F1 sw1, 0, 0)) (h2 : mv_Ev xs Ls d2 j2 (.ref 28 :: as) (MW A1 B1 F1 sw1) (some (.long y), MW A2 B2 F2 sw2, 0, 0)) (hxy : x = y) (I : INV A2 F2 n nb ed wt c) (hd1 : d1 ≤ 18) (hd2 : d2 ≤ 18) : PRL xs Ls j1 j2 as A B F sw c := by
  subst hxy
  exact ⟨x, A1, B1, F1, sw1, A2, B2, F2, sw2, n, nb, ed, wt, ev_up h1 hd1, ev_up h2 hd2, vv_up I⟩
/-- an int is below 0, or a Nat -/
theorem i_cs (x : Int32) : x < 0 ∨ ∃ a, a < 2 ^ 31 ∧ x = nI a := by
  by_cases h : x < 0
  · exact Or.inl h
  · exact Or.inr (nI_of h)
theorem i_neg {x : Int32} {m : Nat} (hm : m < 1000) (h : x < 0) : outN x m = true := by
  cases h2 : outN x m with
  | true => rfl
  | false =>
    obtain ⟨k, _, rfl⟩ := out_in hm h2
    exact absurd h (nI_pos (by omega))
theorem i_big {a m : Nat} (ha : a < 2 ^ 31) (hm : m < 1000) (h : m < a) : outN (nI a) m = true := by
  cases h2 : outN (nI a) m with
  | true => rfl
  | false =>
    obtain ⟨k, hk, e⟩ := out_in hm h2
    have := (nI_eq (a := a) (b := k) ha (by omega)).mp e
    omega
theorem isV_neg {x : Int32} (hn : n ≤ 10) (h : x < 0) : isV x n = false := by
  cases h2 : isV x n with
  | false => rfl
  | true =>
    obtain ⟨k, _, rfl⟩ := isV_ex hn h2
    exact absurd h (nI_pos (by omega))
theorem isV_big {a : Nat} (hn : n ≤ 10) (ha : a < 2 ^ 31) (h : n ≤ a) : isV (nI a) n = false := by
  cases h2 : isV (nI a) n with
  | false => rfl
  | true =>
    obtain ⟨k, hk, e⟩ := isV_ex hn h2
    have := (nI_eq (a := a) (b := k) ha (by omega)).mp e
    omega
theorem isV_cs (x : Int32) (hn : n ≤ 10) : isV x n = false ∨ ∃ a, a < n ∧ x = nI a := by
  cases h2 : isV x n with
  | false => exact Or.inl rfl
  | true => exact Or.inr (isV_ex hn h2)
/-! near -/
theorem pr_near (I : INV A F n nb ed wt c) (x : Int32) : PRI xs Ls 29 91 [.int x] A B F sw c := by
  rcases isV_cs x (vv_n I) with h | ⟨a, ha, rfl⟩
  · exact pri_mk (ev_bNear_f (vv_ci I) h) (ev_near_f (vv_mi I) h) rfl I (by omega) (by omega)
  · exact pri_mk (ev_bNear_t (vv_ci I) ha) (ev_near_t (vv_mi I) ha) rfl I (by omega) (by omega)
end PAIRS
