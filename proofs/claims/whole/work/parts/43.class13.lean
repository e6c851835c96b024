theorem pie_inv2 {nb : Nat → Nat} {g : Nat → Nat → Nat} {I : Nat → Nat → Prop} (hs : ∀ t m, t < 1024 → ¬ t = 0 → I t m → I (sd (t &&& (t - 1)) (pcN nb t)) (g t m)) : ∀ t m, t < 1024 → I t m → I 0 (pieN nb g t m) := by
  refine wh_ind (P := fun t => ∀ m, t < 1024 → I t m → I 0 (pieN nb g t m)) (fun t => t) (fun t ih m ht h => ?_)
  by_cases h0 : t = 0
  · subst h0; rw [pieN_0]; exact h
  · have h2 := pie_less (nb := nb) h0
    rw [pieN_s ht h0]
    exact ih _ h2 _ (by omega) (hs t m ht h0 h)
theorem tch_sub {nb : Nat → Nat} {s v : Nat} (hs : s < 1024) : subS (tchN nb s v) s := by
  have := pie_inv2 (nb := nb) (g := fun t m => if (rcN nb (pcN nb t)).testBit v then m ||| pcN nb t else m) (I := fun t m => subS t s ∧ subS m s) (fun t m ht h0 hI => ?_) s 0 hs ⟨fun i h => h, subS_0 s⟩
  · exact this.2
  · refine ⟨subS_tr (subS_sd (by have := Nat.and_le_left (n := t) (m := t - 1); omega)) (subS_tr subS_low hI.1), ?_⟩
    have h1 : subS (pcN nb t) t := fun i hi => pc_sub ht hi
    split
    · intro i hi
      rw [Nat.testBit_or, Bool.or_eq_true] at hi
      rcases hi with hi | hi
      · exact hI.2 i hi
      · exact hI.1 i (h1 i hi)
    · exact hI.2
/-- what v touches of those ahead: the tallest -/
def hbN (n : Nat) (nb : Nat → Nat) (s : Nat) (h : Nat → Nat) (v : Nat) : Nat := tallN n h (tchN nb s v)
/-- the least height of what is behind s -/
def hleN (n : Nat) (nb : Nat → Nat) (s : Nat) (h : Nat → Nat) : Nat := hlN n (pastN nb s) (hbN n nb s h) (sd (2 ^ n - 1) s)
/-- whether v may come next behind s -/
def hokN (n : Nat) (nb : Nat → Nat) (goal s : Nat) (h : Nat → Nat) (v : Nat) : Bool := !(s.testBit v) && (decide (1 + hbN n nb s h v ≤ goal) && decide (hleN n nb (s ||| 2 ^ v) (upN h v (1 + hbN n nb s h v)) ≤ goal))
def hagS (s : Nat) (h g : Nat → Nat) : Prop := ∀ v, v < 10 → s.testBit v = true → h v = g v
theorem hb_congr {n : Nat} (hn : n ≤ 10) {nb : Nat → Nat} {s : Nat} (hs : s < 1024) {h g : Nat → Nat} (hg : hagS s h g) (v : Nat) : hbN n nb s h v = hbN n nb s g v := tall_congr (fun u hu hb => hg u (by omega) (tch_sub hs u hb))
theorem hle_congr {n : Nat} (hn : n ≤ 10) {nb : Nat → Nat} {s : Nat} (hs : s < 1024) {h g : Nat → Nat} (hg : hagS s h g) : hleN n nb s h = hleN n nb s g := by
  unfold hleN
  rw [show hbN n nb s h = hbN n nb s g from funext (fun v => hb_congr hn hs hg v)]
theorem hag_up {s : Nat} {h g : Nat → Nat} {v x : Nat} (hg : hagS s h g) : hagS (s ||| 2 ^ v) (upN h v x) (upN g v x) := by
  intro u hu hb
  unfold upN
  by_cases e : u = v
  · rw [if_pos e, if_pos e]
  · rw [if_neg e, if_neg e]
    rw [Nat.testBit_or, Nat.testBit_two_pow] at hb
    refine hg u hu ?_
    have : decide (v = u) = false := decide_eq_false (fun e2 => e e2.symm)
    rw [this, Bool.or_false] at hb
    exact hb
theorem hok_congr {n : Nat} (hn : n ≤ 10) {nb : Nat → Nat} {goal s : Nat} (hs : s < 1024) {h g : Nat → Nat} (hg : hagS s h g) {v : Nat} (hv : v < 10) : hokN n nb goal s h v = hokN n nb goal s g v := by
  have hw := or_lt hs (pow_lt hv)
  unfold hokN
  rw [hb_congr hn hs hg v, hle_congr hn hw (hag_up hg)]
/-- the class's rows of what is seen and of what lies below -/
def hseeN (n : Nat) (nb : Nat → Nat) (s : Nat) (h : Nat → Nat) : Nat → (Nat → Int32) × (Nat → Int32) → (Nat → Int32) × (Nat → Int32) := fun v q => if (sd (2 ^ n - 1) s).testBit v then (upd q.1 v (nI (pastN nb s v)), upd q.2 v (nI (hbN n nb s h v))) else q
theorem hsee_at {n : Nat} {nb : Nat → Nat} {s : Nat} {h : Nat → Nat} {q0 : (Nat → Int32) × (Nat → Int32)} : ∀ j v, v < j → (sd (2 ^ n - 1) s).testBit v = true → (forN (hseeN n nb s h) j q0).1 v = nI (pastN nb s v) ∧ (forN (hseeN n nb s h) j q0).2 v = nI (hbN n nb s h v)
  | 0, v, hv, hb => by omega
  | j + 1, v, hv, hb => by
    simp only [forN]
    generalize hQ : forN (hseeN n nb s h) j q0 = Q
    by_cases e : v = j
    · subst e
      unfold hseeN
      rw [hb]
      exact ⟨pk_us, pk_us⟩
    · have ih := hsee_at (n := n) (nb := nb) (s := s) (h := h) (q0 := q0) j v (by omega) hb
      rw [hQ] at ih
      unfold hseeN
      split
      · exact ⟨by show upd Q.1 j _ v = _; rw [pk_un e]; exact ih.1, by show upd Q.2 j _ v = _; rw [pk_un e]; exact ih.2⟩
      · exact ih
section CC
variable {xs : Nat → Int32} {Ls : Nat} {A : Nat → Nat → Int32} {B : Nat → Nat → Int64} {F : Nat → Int32} {sw : Bool} {n : Nat} {nb : Nat → Nat}
theorem lp_hle (hC : CI A F n nb) {s b : Nat} (hb : b < 2 ^ n) {sg bl : Nat → Nat} {f g : Nat → Int32} (hsg : ∀ v, v < n → b.testBit v = true → f v = nI (sg v) ∧ sg v < 1024) (hbl : ∀ v, v < n → b.testBit v = true → g v = nI (bl v) ∧ bl v ≤ 1000) : ∀ (e i t : Nat) (q : (Nat → Int32) × (Nat → Int32)) (d6 : Value), i + e = 2 ^ pop b → chkN b e t = true → subS t b → hsI b (rcN sg) (hlN n sg bl) t q → mv_Wp xs Ls 2 3 false (some .int) mv_c34 (86, [.ref 17, .int (nI s), .int (nI b), .int (nI (2 ^ pop b)), .int (nI t), .int (nI i), d6], [], MW (upA (upA (upA (upA A 18 f) 20 g) 21 q.1) 22 q.2) B F sw, 0, 0) (some (.int (nI (hlN n sg bl b))), MW (upA (upA (upA (upA A 18 f) 20 g) 21 (hsF b (rcN sg) (hlN n sg bl) e t q).1) 22 (hsF b (rcN sg) (hlN n sg bl) e t q).2) B F sw, 0, 0) := by
  have hn := hC.1
  have hp := pow10 hn
  have hp1 : 1 ≤ 2 ^ n := Nat.one_le_two_pow
  have hal := all_lt hn
  have hpb := pop_le (s := b) (by omega)
  have hpw : 2 ^ pop b ≤ 2 ^ 10 := Nat.pow_le_pow_right (by omega) hpb
  intro e
  induction e with
  | zero =>
    intro i t q d6 hi hc ht hI
    have hbt : t = b := of_decide_eq_true hc
    have hbI := (hI b (fun i h => h) (by omega)).2
    refine wp_go (f' := ((if (nI (2 ^ pop b)) ≤ (nI i) then 194 else 92), [.ref 17, .int (nI s), .int (nI b), .int (nI (2 ^ pop b)), .int (nI t), .int (nI i), d6], [], MW (upA (upA (upA (upA A 18 f) 20 g) 21 q.1) 22 q.2) B F sw, 0, 0)) 3 rfl ?_
    refine wp_ite (fun _ => ?_) (fun h9 => absurd (nI_le (by omega) (by omega)) h9)
    refine wp_go (f' := (199, [.ref 17, .int (nI s), .int (nI b), .int (nI (2 ^ pop b)), .int (nI t), .int (nI i), d6], [.int (nI b), .ref 22], MW (upA (upA (upA (upA A 18 f) 20 g) 21 q.1) 22 q.2) B F sw, 0, 0)) 3 rfl ?_
    refine wp_iald rfl rfl (by omega) (by decide) ?_
    refine wp_eq (f' := (200, [.ref 17, .int (nI s), .int (nI b), .int (nI (2 ^ pop b)), .int (nI t), .int (nI i), d6], [.int (q.2 b)], MW (upA (upA (upA (upA A 18 f) 20 g) 21 q.1) 22 q.2) B F sw, 0, 0)) rfl ?_
    rw [hbI]
    exact wp_iret rfl
  | succ e ih =>
    intro i t q d6 hi hc ht hI
    simp only [chkN, Bool.and_eq_true, decide_eq_true_eq] at hc
    obtain ⟨hc1, hc2⟩ := hc
    have htb := subS_le ht
    have hnI := hsI_s (by omega) ht hI
    have hnx := nx_int (b := b) (s := t) (by omega) (by omega)
    have hns := nx_sub (b := b) (s := t)
    have hxb := subS_le hns
    have hsub : ∀ u, subS u (nxN b t) → u < nxN b t → q.1 u = nI (rcN sg u) ∧ q.2 u = nI (hlN n sg bl u) := fun u h1 h2 => hI u (subS_tr h1 hns) (nx_next (by omega) ht (subS_tr h1 hns) h2)
    simp only [hsF]
    generalize nxN b t = x at *
    have hx0 : ¬ x = 0 := by omega
    have hxl := low_lt (s := x) (by omega) hx0
    have hxn : low x < n := by
      rcases Nat.lt_or_ge (low x) n with g9 | g9
      · exact g9
      · have h7 := low_bit (s := x) (by omega) hx0; rw [bt_big (n := n) (by omega) g9] at h7; cases h7
    have hlo := hsg (low x) hxn (hns _ (low_bit (by omega) hx0))
    have hre := hsub (x &&& (x - 1)) subS_low (by have h7 := Nat.and_le_right (n := x) (m := x - 1); omega)
    have hrx : x &&& (x - 1) < 1024 := and_lt (by omega)
    have hrc := rc_s (nb := sg) (s := x) (by omega) hx0
    have hpl := pc_le (nb := sg) (s := x) (by omega)
    have hpb2 : subS (pcN sg x) x := fun i hi => pc_sub (by omega) hi
    have hsp : spN (rcN sg) x = pcN sg x := by unfold pcN; rw [if_neg hx0]
    have hsdl := sd_lss (s := x) (t := pcN sg x) (by omega) (low_bit (by omega) hx0) (pc_low hx0)
    have hfold := hl_fold (n := n) (g := sg) (b := bl) (s := x) (by omega) hx0
    have hl1 := hl_le (n := n) (g := sg) (b := bl) (s := pcN sg x)
    have hl2 := hl_le (n := n) (g := sg) (b := bl) (s := sd x (pcN sg x))
    have hspq : ∀ u, subS u x → (upd q.1 x (nI (rcN sg x))) u = nI (rcN sg u) := by
      intro u hu
      by_cases e5 : u = x
      · rw [e5]; exact pk_us
      · rw [pk_un e5]; exact (hsub u hu (by have := subS_le hu; omega)).1
    refine wp_go (f' := ((if (nI (2 ^ pop b)) ≤ (nI i) then 194 else 92), [.ref 17, .int (nI s), .int (nI b), .int (nI (2 ^ pop b)), .int (nI t), .int (nI i), d6], [], MW (upA (upA (upA (upA A 18 f) 20 g) 21 q.1) 22 q.2) B F sw, 0, 0)) 3 rfl ?_
    refine wp_ite (fun h9 => absurd h9 (nI_ge (by omega) (by omega))) (fun _ => ?_)
    refine wp_go (f' := (98, [.ref 17, .int (nI s), .int (nI b), .int (nI (2 ^ pop b)), .int (nI t), .int (nI i), d6], [.int (((nI t) - (nI b)) &&& (nI b))], MW (upA (upA (upA (upA A 18 f) 20 g) 21 q.1) 22 q.2) B F sw, 0, 0)) 5 rfl ?_
    rw [hnx]
    refine wp_go (f' := (116, [.ref 17, .int (nI s), .int (nI b), .int (nI (2 ^ pop b)), .int (nI x), .int (nI i), d6], [.int ((nI x) - (nI 1)), .int (nI x), .ref 21, .int (nI x), .ref 21], MW (upA (upA (upA (upA A 18 f) 20 g) 21 q.1) 22 q.2) B F sw, 0, 0)) 10 rfl ?_
    rw [pk_sub (by omega)]
    refine wp_go (f' := (117, [.ref 17, .int (nI s), .int (nI b), .int (nI (2 ^ pop b)), .int (nI x), .int (nI i), d6], [.int ((nI x) &&& (nI (x - 1))), .ref 21, .int (nI x), .ref 21], MW (upA (upA (upA (upA A 18 f) 20 g) 21 q.1) 22 q.2) B F sw, 0, 0)) 1 rfl ?_
    rw [bx_and]
    refine wp_iald rfl rfl (by omega) (by decide) ?_
    refine wp_eq (f' := (118, [.ref 17, .int (nI s), .int (nI b), .int (nI (2 ^ pop b)), .int (nI x), .int (nI i), d6], [.int (q.1 (x &&& (x - 1))), .int (nI x), .ref 21], MW (upA (upA (upA (upA A 18 f) 20 g) 21 q.1) 22 q.2) B F sw, 0, 0)) rfl ?_
    rw [hre.1]
    refine wp_go (f' := (124, [.ref 17, .int (nI s), .int (nI b), .int (nI (2 ^ pop b)), .int (nI x), .int (nI i), d6], [.int (nI x), .ref 18, .int (nI (rcN sg (x &&& (x - 1)))), .int (nI x), .ref 21], MW (upA (upA (upA (upA A 18 f) 20 g) 21 q.1) 22 q.2) B F sw, 0, 0)) 3 rfl ?_
    refine wp_call rfl rfl rfl (ev_up (ev_low (s := x) (by omega) (by omega) _) (by decide)) ?_
    refine wp_eq (f' := (127, [.ref 17, .int (nI s), .int (nI b), .int (nI (2 ^ pop b)), .int (nI x), .int (nI i), d6], [.int (nI (low x)), .ref 18, .int (nI (rcN sg (x &&& (x - 1)))), .int (nI x), .ref 21], MW (upA (upA (upA (upA A 18 f) 20 g) 21 q.1) 22 q.2) B F sw, 0, 0)) rfl ?_
    have hlw := low_lt (s := x) (by omega) (by omega)
    refine wp_iald rfl rfl (by omega) (by decide) ?_
    refine wp_eq (f' := (128, [.ref 17, .int (nI s), .int (nI b), .int (nI (2 ^ pop b)), .int (nI x), .int (nI i), d6], [.int (f (low x)), .int (nI (rcN sg (x &&& (x - 1)))), .int (nI x), .ref 21], MW (upA (upA (upA (upA A 18 f) 20 g) 21 q.1) 22 q.2) B F sw, 0, 0)) rfl ?_
    rw [hlo.1]
    refine wp_go (f' := (129, [.ref 17, .int (nI s), .int (nI b), .int (nI (2 ^ pop b)), .int (nI x), .int (nI i), d6], [.int ((nI (rcN sg (x &&& (x - 1)))) ||| (nI (sg (low x)))), .int (nI x), .ref 21], MW (upA (upA (upA (upA A 18 f) 20 g) 21 q.1) 22 q.2) B F sw, 0, 0)) 1 rfl ?_
    rw [bx_or]
    rw [← hrc]
    refine wp_iast rfl rfl (by omega) (by decide) ?_
    refine wp_eq (f' := (130, [.ref 17, .int (nI s), .int (nI b), .int (nI (2 ^ pop b)), .int (nI x), .int (nI i), d6], [], MW (upA (upA (upA (upA A 18 f) 20 g) 22 q.2) 21 (upd q.1 x (nI (rcN sg x)))) B F sw, 0, 0)) rfl ?_
    refine wp_go (f' := (136, [.ref 17, .int (nI s), .int (nI b), .int (nI (2 ^ pop b)), .int (nI x), .int (nI i), d6], [.int (nI x), .ref 21], MW (upA (upA (upA (upA A 18 f) 20 g) 22 q.2) 21 (upd q.1 x (nI (rcN sg x)))) B F sw, 0, 0)) 3 rfl ?_
    have hspr := ev_spreadS (xs := xs) (Ls := Ls) (B := B) (F := F) (sw := sw) (A := upA (upA (upA (upA A 18 f) 20 g) 21 (upd q.1 x (nI (rcN sg x)))) 22 q.2) (g := rcN sg) (s := x) (by omega) hx0 hspq
    rw [hsp] at hspr
    refine wp_call rfl rfl rfl (ev_up hspr (by decide)) ?_
    refine wp_eq (f' := (139, [.ref 17, .int (nI s), .int (nI b), .int (nI (2 ^ pop b)), .int (nI x), .int (nI i), d6], [.int (nI (pcN sg x))], MW (upA (upA (upA (upA A 18 f) 20 g) 22 q.2) 21 (upd q.1 x (nI (rcN sg x)))) B F sw, 0, 0)) rfl ?_
    refine wp_go (f' := ((if ¬ (nI (pcN sg x)) = (nI x) then 165 else 154), [.ref 17, .int (nI s), .int (nI b), .int (nI (2 ^ pop b)), .int (nI x), .int (nI i), .int (nI (pcN sg x))], [.int (nI x), .ref 22], MW (upA (upA (upA (upA A 18 f) 20 g) 22 q.2) 21 (upd q.1 x (nI (rcN sg x)))) B F sw, 0, 0)) 7 rfl ?_
    refine wp_ite (fun h1 => ?_) (fun h1 => ?_)
    · have h1 : ¬ (pcN sg x = x) := fun h9 => h1 ((nI_eq (a := pcN sg x) (b := x) (by omega) (by omega)).mpr h9)
      have hpne := h1
      refine wp_go (f' := (171, [.ref 17, .int (nI s), .int (nI b), .int (nI (2 ^ pop b)), .int (nI x), .int (nI i), .int (nI (pcN sg x))], [.int (nI (pcN sg x)), .ref 22, .int (nI x), .ref 22], MW (upA (upA (upA (upA A 18 f) 20 g) 22 q.2) 21 (upd q.1 x (nI (rcN sg x)))) B F sw, 0, 0)) 3 rfl ?_
      refine wp_iald rfl rfl (by omega) (by decide) ?_
      refine wp_eq (f' := (172, [.ref 17, .int (nI s), .int (nI b), .int (nI (2 ^ pop b)), .int (nI x), .int (nI i), .int (nI (pcN sg x))], [.int (q.2 (pcN sg x)), .int (nI x), .ref 22], MW (upA (upA (upA (upA A 18 f) 20 g) 22 q.2) 21 (upd q.1 x (nI (rcN sg x)))) B F sw, 0, 0)) rfl ?_
      rw [(hsub (pcN sg x) hpb2 (by omega)).2]
      refine wp_go (f' := (183, [.ref 17, .int (nI s), .int (nI b), .int (nI (2 ^ pop b)), .int (nI x), .int (nI i), .int (nI (pcN sg x))], [.int ((nI x) &&& ((nI (pcN sg x)) ^^^ (-1))), .ref 22, .int (nI (hlN n sg bl (pcN sg x))), .int (nI x), .ref 22], MW (upA (upA (upA (upA A 18 f) 20 g) 22 q.2) 21 (upd q.1 x (nI (rcN sg x)))) B F sw, 0, 0)) 7 rfl ?_
      rw [bx_sd (by omega)]
      refine wp_iald rfl rfl (by omega) (by decide) ?_
      refine wp_eq (f' := (184, [.ref 17, .int (nI s), .int (nI b), .int (nI (2 ^ pop b)), .int (nI x), .int (nI i), .int (nI (pcN sg x))], [.int (q.2 (sd x (pcN sg x))), .int (nI (hlN n sg bl (pcN sg x))), .int (nI x), .ref 22], MW (upA (upA (upA (upA A 18 f) 20 g) 22 q.2) 21 (upd q.1 x (nI (rcN sg x)))) B F sw, 0, 0)) rfl ?_
      rw [(hsub (sd x (pcN sg x)) (subS_sd (by omega)) (by omega)).2]
      refine wp_go (f' := (187, [.ref 17, .int (nI s), .int (nI b), .int (nI (2 ^ pop b)), .int (nI x), .int (nI i), .int (nI (pcN sg x))], [.int (if (nI (hlN n sg bl (pcN sg x))) < (nI (hlN n sg bl (sd x (pcN sg x)))) then nI (hlN n sg bl (sd x (pcN sg x))) else nI (hlN n sg bl (pcN sg x))), .int (nI x), .ref 22], MW (upA (upA (upA (upA A 18 f) 20 g) 22 q.2) 21 (upd q.1 x (nI (rcN sg x)))) B F sw, 0, 0)) 1 rfl ?_
      rw [nI_ite (by first | omega | (split <;> omega)) (by first | omega | (split <;> omega))]
      refine wp_iast rfl rfl (by omega) (by decide) ?_
      refine wp_eq (f' := (188, [.ref 17, .int (nI s), .int (nI b), .int (nI (2 ^ pop b)), .int (nI x), .int (nI i), .int (nI (pcN sg x))], [], MW (upA (upA (upA (upA A 18 f) 20 g) 21 (upd q.1 x (nI (rcN sg x)))) 22 (upd q.2 x (nI (if hlN n sg bl (pcN sg x) < hlN n sg bl (sd x (pcN sg x)) then hlN n sg bl (sd x (pcN sg x)) else hlN n sg bl (pcN sg x))))) B F sw, 0, 0)) rfl ?_
      refine wp_go (f' := (191, [.ref 17, .int (nI s), .int (nI b), .int (nI (2 ^ pop b)), .int (nI x), .int ((nI i) + 1), .int (nI (pcN sg x))], [], MW (upA (upA (upA (upA A 18 f) 20 g) 21 (upd q.1 x (nI (rcN sg x)))) 22 (upd q.2 x (nI (if hlN n sg bl (pcN sg x) < hlN n sg bl (sd x (pcN sg x)) then hlN n sg bl (sd x (pcN sg x)) else hlN n sg bl (pcN sg x))))) B F sw, 0, 0)) 1 rfl ?_
      rw [nI_1]
      refine wp_go (f' := (86, [.ref 17, .int (nI s), .int (nI b), .int (nI (2 ^ pop b)), .int (nI x), .int (nI (i + 1)), .int (nI (pcN sg x))], [], MW (upA (upA (upA (upA A 18 f) 20 g) 21 (upd q.1 x (nI (rcN sg x)))) 22 (upd q.2 x (nI (if hlN n sg bl (pcN sg x) < hlN n sg bl (sd x (pcN sg x)) then hlN n sg bl (sd x (pcN sg x)) else hlN n sg bl (pcN sg x))))) B F sw, 0, 0)) 1 rfl ?_
      rw [show (if hlN n sg bl (pcN sg x) < hlN n sg bl (sd x (pcN sg x)) then hlN n sg bl (sd x (pcN sg x)) else hlN n sg bl (pcN sg x)) = hlN n sg bl x by rw [hfold, if_neg h1]]
      exact ih (i + 1) x ((upd q.1 x (nI (rcN sg x))), upd q.2 x (nI (hlN n sg bl x))) _ (by omega) hc2 hns hnI
    · have h1 := Classical.not_not.mp h1; have h1 : pcN sg x = x := (nI_eq (a := pcN sg x) (b := x) (by omega) (by omega)).mp h1
      refine wp_go (f' := (158, [.ref 17, .int (nI s), .int (nI b), .int (nI (2 ^ pop b)), .int (nI x), .int (nI i), .int (nI (pcN sg x))], [.int (nI x), .ref 17, .int (nI 1), .int (nI x), .ref 22], MW (upA (upA (upA (upA A 18 f) 20 g) 22 q.2) 21 (upd q.1 x (nI (rcN sg x)))) B F sw, 0, 0)) 3 rfl ?_
      have hbw := ev_hBelow (xs := xs) (Ls := Ls) (B := B) (sw := sw) (A := upA (upA (upA (upA A 18 f) 20 g) 21 (upd q.1 x (nI (rcN sg x)))) 22 q.2) (F := F) (nb := nb) hC (s := x) (by omega) (b := bl) (L := hlN n sg bl) (fun v hv hbv => ⟨(hbl v hv (hns v hbv)).1, by have := (hbl v hv (hns v hbv)).2; omega⟩) (fun v hv hbv => ⟨(hsub (sd x (2 ^ v)) (subS_sd (by omega)) (sd_lss (by omega) hbv Nat.testBit_two_pow_self)).2, hl_le⟩)
      refine wp_call rfl rfl rfl (ev_up hbw (by decide)) ?_
      refine wp_eq (f' := (161, [.ref 17, .int (nI s), .int (nI b), .int (nI (2 ^ pop b)), .int (nI x), .int (nI i), .int (nI (pcN sg x))], [.int (nI (lbN n bl (hlN n sg bl) x)), .int (nI 1), .int (nI x), .ref 22], MW (upA (upA (upA (upA A 18 f) 20 g) 22 q.2) 21 (upd q.1 x (nI (rcN sg x)))) B F sw, 0, 0)) rfl ?_
      have hlbl := lb_le (n := n) (b := bl) (L := hlN n sg bl) (s := x)
      refine wp_go (f' := (162, [.ref 17, .int (nI s), .int (nI b), .int (nI (2 ^ pop b)), .int (nI x), .int (nI i), .int (nI (pcN sg x))], [.int ((nI 1) + (nI (lbN n bl (hlN n sg bl) x))), .int (nI x), .ref 22], MW (upA (upA (upA (upA A 18 f) 20 g) 22 q.2) 21 (upd q.1 x (nI (rcN sg x)))) B F sw, 0, 0)) 1 rfl ?_
      rw [nI_add]
      refine wp_go (f' := (187, [.ref 17, .int (nI s), .int (nI b), .int (nI (2 ^ pop b)), .int (nI x), .int (nI i), .int (nI (pcN sg x))], [.int (nI (1 + (lbN n bl (hlN n sg bl) x))), .int (nI x), .ref 22], MW (upA (upA (upA (upA A 18 f) 20 g) 22 q.2) 21 (upd q.1 x (nI (rcN sg x)))) B F sw, 0, 0)) 1 rfl ?_
      refine wp_iast rfl rfl (by omega) (by decide) ?_
      refine wp_eq (f' := (188, [.ref 17, .int (nI s), .int (nI b), .int (nI (2 ^ pop b)), .int (nI x), .int (nI i), .int (nI (pcN sg x))], [], MW (upA (upA (upA (upA A 18 f) 20 g) 21 (upd q.1 x (nI (rcN sg x)))) 22 (upd q.2 x (nI (1 + (lbN n bl (hlN n sg bl) x))))) B F sw, 0, 0)) rfl ?_
      refine wp_go (f' := (191, [.ref 17, .int (nI s), .int (nI b), .int (nI (2 ^ pop b)), .int (nI x), .int ((nI i) + 1), .int (nI (pcN sg x))], [], MW (upA (upA (upA (upA A 18 f) 20 g) 21 (upd q.1 x (nI (rcN sg x)))) 22 (upd q.2 x (nI (1 + (lbN n bl (hlN n sg bl) x))))) B F sw, 0, 0)) 1 rfl ?_
      rw [nI_1]
      refine wp_go (f' := (86, [.ref 17, .int (nI s), .int (nI b), .int (nI (2 ^ pop b)), .int (nI x), .int (nI (i + 1)), .int (nI (pcN sg x))], [], MW (upA (upA (upA (upA A 18 f) 20 g) 21 (upd q.1 x (nI (rcN sg x)))) 22 (upd q.2 x (nI (1 + (lbN n bl (hlN n sg bl) x))))) B F sw, 0, 0)) 1 rfl ?_
      rw [show (1 + (lbN n bl (hlN n sg bl) x)) = hlN n sg bl x by rw [hfold, if_pos h1]]
      exact ih (i + 1) x ((upd q.1 x (nI (rcN sg x))), upd q.2 x (nI (hlN n sg bl x))) _ (by omega) hc2 hns hnI
theorem ev_hLeast0 (hC : CI A F n nb) (hR : RI A n nb) {h : Nat → Nat} (hh : ∀ v, v < 10 → A 19 v = nI (h v) ∧ h v ≤ 1000) {s : Nat} (hs : s < 2 ^ n) (hZ : A 21 0 = nI 0 ∧ A 22 0 = nI 0) : mv_Ev xs Ls 4 34 [.ref 17, .int (nI s)] (MW A B F sw) (some (.int (nI (hleN n nb s h))), MW (upA (upA (upA (upA A 18 (forN (hseeN n nb s h) n (A 18, A 20)).1) 20 (forN (hseeN n nb s h) n (A 18, A 20)).2) 21 (hsF (sd (2 ^ n - 1) s) (rcN (pastN nb s)) (hlN n (pastN nb s) (hbN n nb s h)) (2 ^ pop (sd (2 ^ n - 1) s) - 1) 0 (A 21, A 22)).1) 22 (hsF (sd (2 ^ n - 1) s) (rcN (pastN nb s)) (hlN n (pastN nb s) (hbN n nb s h)) (2 ^ pop (sd (2 ^ n - 1) s) - 1) 0 (A 21, A 22)).2) B F sw, 0, 0) := by
  refine ev_of_wp rfl rfl rfl ?_
  have hn := hC.1
  have hp := pow10 hn
  have hp1 : 1 ≤ 2 ^ n := Nat.one_le_two_pow
  have hal := all_lt hn
  have hsdl : (sd (2 ^ n - 1) s) < 2 ^ n := by have h9 := sd_le (a := 2 ^ n - 1) (b := s); omega
  refine wp_go (f' := (4, [.ref 17, .int (nI s), .retAddr 0, .retAddr 0, .retAddr 0, .retAddr 0, .retAddr 0], [.ref 1], MW A B F sw, 0, 0)) 2 rfl ?_
  refine wp_call rfl rfl rfl (ev_up (ev_gAll hC) (by decide)) ?_
  refine wp_eq (f' := (7, [.ref 17, .int (nI s), .retAddr 0, .retAddr 0, .retAddr 0, .retAddr 0, .retAddr 0], [.int (nI (2 ^ n - 1))], MW A B F sw, 0, 0)) rfl ?_
  refine wp_go (f' := (11, [.ref 17, .int (nI s), .retAddr 0, .retAddr 0, .retAddr 0, .retAddr 0, .retAddr 0], [.int ((nI (2 ^ n - 1)) &&& ((nI s) ^^^ (-1)))], MW A B F sw, 0, 0)) 4 rfl ?_
  rw [bx_sd (by omega)]
  refine wp_go (f' := (14, [.ref 17, .int (nI s), .int (nI (sd (2 ^ n - 1) s)), .int (nI 0), .retAddr 0, .retAddr 0, .retAddr 0], [], MW A B F sw, 0, 0)) 3 rfl ?_
  refine wp_eq (f' := (14, [.ref 17, .int (nI s), .int (nI (sd (2 ^ n - 1) s)), .int (nI 0), .retAddr 0, .retAddr 0, .retAddr 0], [], MW (upA (upA A 18 (A 18)) 20 (A 20)) B F sw, 0, 0)) rfl ?_
  refine for_ind (P := fun (k : Nat) (q : (Nat → Int32) × (Nat → Int32)) => mv_Wp xs Ls 3 3 false (some .int) mv_c34 (14, [.ref 17, .int (nI s), .int (nI (sd (2 ^ n - 1) s)), .int (nI k), .retAddr 0, .retAddr 0, .retAddr 0], [], MW (upA (upA A 18 q.1) 20 q.2) B F sw, 0, 0) (some (.int (nI (hleN n nb s h))), MW (upA (upA (upA (upA A 18 (forN (hseeN n nb s h) n (A 18, A 20)).1) 20 (forN (hseeN n nb s h) n (A 18, A 20)).2) 21 (hsF (sd (2 ^ n - 1) s) (rcN (pastN nb s)) (hlN n (pastN nb s) (hbN n nb s h)) (2 ^ pop (sd (2 ^ n - 1) s) - 1) 0 (A 21, A 22)).1) 22 (hsF (sd (2 ^ n - 1) s) (rcN (pastN nb s)) (hlN n (pastN nb s) (hbN n nb s h)) (2 ^ pop (sd (2 ^ n - 1) s) - 1) 0 (A 21, A 22)).2) B F sw, 0, 0)) (f := hseeN n nb s h) (n := n) ?_ n (A 18, A 20) (Nat.le_refl _) ?_  
  · intro k q hk ih  
    refine wp_go (f' := (22, [.ref 17, .int (nI s), .int (nI (sd (2 ^ n - 1) s)), .int (nI k), .retAddr 0, .retAddr 0, .retAddr 0], [.int (F 0), .int (nI k)], MW (upA (upA A 18 q.1) 20 q.2) B F sw, 0, 0)) 4 rfl ?_
    rw [hC.2.1]
    refine wp_go (f' := ((if (nI n) ≤ (nI k) then 73 else 25), [.ref 17, .int (nI s), .int (nI (sd (2 ^ n - 1) s)), .int (nI k), .retAddr 0, .retAddr 0, .retAddr 0], [], MW (upA (upA A 18 q.1) 20 q.2) B F sw, 0, 0)) 1 rfl ?_
    refine wp_ite (fun h9 => absurd h9 (nI_ge hk (by omega))) (fun _ => ?_)
    refine wp_go (f' := (30, [.ref 17, .int (nI s), .int (nI (sd (2 ^ n - 1) s)), .int (nI k), .retAddr 0, .retAddr 0, .retAddr 0], [.int (((nI (sd (2 ^ n - 1) s)) >>> ((nI k) &&& 31)) &&& (nI 1))], MW (upA (upA A 18 q.1) 20 q.2) B F sw, 0, 0)) 5 rfl ?_
    rw [bx_bit (by omega) (by omega)]
    refine wp_go (f' := ((if (bI ((sd (2 ^ n - 1) s).testBit k)) = 0 then 67 else 33), [.ref 17, .int (nI s), .int (nI (sd (2 ^ n - 1) s)), .int (nI k), .retAddr 0, .retAddr 0, .retAddr 0], [], MW (upA (upA A 18 q.1) 20 q.2) B F sw, 0, 0)) 1 rfl ?_
    refine wp_ite (fun h1 => ?_) (fun h1 => ?_)
    · have h1 := bI_0.mp h1
      refine wp_go (f' := (70, [.ref 17, .int (nI s), .int (nI (sd (2 ^ n - 1) s)), .int ((nI k) + 1), .retAddr 0, .retAddr 0, .retAddr 0], [], MW (upA (upA A 18 q.1) 20 q.2) B F sw, 0, 0)) 1 rfl ?_
      rw [nI_1]
      refine wp_go (f' := (14, [.ref 17, .int (nI s), .int (nI (sd (2 ^ n - 1) s)), .int (nI (k + 1)), .retAddr 0, .retAddr 0, .retAddr 0], [], MW (upA (upA A 18 q.1) 20 q.2) B F sw, 0, 0)) 1 rfl ?_
      have e9 : hseeN n nb s h k q = q := by unfold hseeN; rw [h1]; rfl
      rw [e9] at ih
      exact ih
    · have h1 := bI_n0 h1
      refine wp_go (f' := (44, [.ref 17, .int (nI s), .int (nI (sd (2 ^ n - 1) s)), .int (nI k), .retAddr 0, .retAddr 0, .retAddr 0], [.int (nI k), .int (nI s), .ref 1, .int (nI k), .ref 18], MW (upA (upA A 18 q.1) 20 q.2) B F sw, 0, 0)) 7 rfl ?_
      refine wp_call rfl rfl rfl (ev_up (ev_gSees (A := (upA (upA A 18 q.1) 20 q.2)) (F := F) hC hR (s := s) (v := k) (by omega) (by omega)) (by decide)) ?_
      refine wp_eq (f' := (47, [.ref 17, .int (nI s), .int (nI (sd (2 ^ n - 1) s)), .int (nI k), .retAddr 0, .retAddr 0, .retAddr 0], [.int (nI (pastN nb s k)), .int (nI k), .ref 18], MW (upA (upA A 18 q.1) 20 q.2) B F sw, 0, 0)) rfl ?_
      refine wp_iast rfl rfl (by omega) (by decide) ?_
      refine wp_eq (f' := (48, [.ref 17, .int (nI s), .int (nI (sd (2 ^ n - 1) s)), .int (nI k), .retAddr 0, .retAddr 0, .retAddr 0], [], MW (upA (upA A 20 q.2) 18 (upd q.1 k (nI (pastN nb s k)))) B F sw, 0, 0)) rfl ?_
      refine wp_go (f' := (60, [.ref 17, .int (nI s), .int (nI (sd (2 ^ n - 1) s)), .int (nI k), .retAddr 0, .retAddr 0, .retAddr 0], [.int (nI k), .int (nI s), .ref 1, .ref 17, .int (nI k), .ref 20], MW (upA (upA A 20 q.2) 18 (upd q.1 k (nI (pastN nb s k)))) B F sw, 0, 0)) 8 rfl ?_
      refine wp_call rfl rfl rfl (ev_up (ev_gTouched (A := (upA (upA A 18 (upd q.1 k (nI (pastN nb s k)))) 20 q.2)) (F := F) hC hR (s := s) (v := k) (by omega) (by omega)) (by decide)) ?_
      refine wp_eq (f' := (63, [.ref 17, .int (nI s), .int (nI (sd (2 ^ n - 1) s)), .int (nI k), .retAddr 0, .retAddr 0, .retAddr 0], [.int (nI (tchN nb s k)), .ref 17, .int (nI k), .ref 20], MW (upA (upA A 20 q.2) 18 (upd q.1 k (nI (pastN nb s k)))) B F sw, 0, 0)) rfl ?_
      have htl := tch_lt (nb := nb) (v := k) hn hs
      refine wp_call rfl rfl rfl (ev_up (ev_hTall (A := (upA (upA A 18 (upd q.1 k (nI (pastN nb s k)))) 20 q.2)) (F := F) (nb := nb) hC hh (s := tchN nb s k) (by omega)) (by decide)) ?_
      refine wp_eq (f' := (66, [.ref 17, .int (nI s), .int (nI (sd (2 ^ n - 1) s)), .int (nI k), .retAddr 0, .retAddr 0, .retAddr 0], [.int (nI (tallN n h (tchN nb s k))), .int (nI k), .ref 20], MW (upA (upA A 20 q.2) 18 (upd q.1 k (nI (pastN nb s k)))) B F sw, 0, 0)) rfl ?_
      refine wp_iast rfl rfl (by omega) (by decide) ?_
      refine wp_eq (f' := (67, [.ref 17, .int (nI s), .int (nI (sd (2 ^ n - 1) s)), .int (nI k), .retAddr 0, .retAddr 0, .retAddr 0], [], MW (upA (upA A 18 (upd q.1 k (nI (pastN nb s k)))) 20 (upd q.2 k (nI (tallN n h (tchN nb s k))))) B F sw, 0, 0)) rfl ?_
      refine wp_go (f' := (70, [.ref 17, .int (nI s), .int (nI (sd (2 ^ n - 1) s)), .int ((nI k) + 1), .retAddr 0, .retAddr 0, .retAddr 0], [], MW (upA (upA A 18 (upd q.1 k (nI (pastN nb s k)))) 20 (upd q.2 k (nI (tallN n h (tchN nb s k))))) B F sw, 0, 0)) 1 rfl ?_
      rw [nI_1]
      refine wp_go (f' := (14, [.ref 17, .int (nI s), .int (nI (sd (2 ^ n - 1) s)), .int (nI (k + 1)), .retAddr 0, .retAddr 0, .retAddr 0], [], MW (upA (upA A 18 (upd q.1 k (nI (pastN nb s k)))) 20 (upd q.2 k (nI (tallN n h (tchN nb s k))))) B F sw, 0, 0)) 1 rfl ?_
      have e9 : hseeN n nb s h k q = (upd q.1 k (nI (pastN nb s k)), upd q.2 k (nI (hbN n nb s h k))) := by unfold hseeN; rw [h1]; rfl
      rw [e9] at ih
      exact ih
  · skip
    refine wp_go (f' := (22, [.ref 17, .int (nI s), .int (nI (sd (2 ^ n - 1) s)), .int (nI n), .retAddr 0, .retAddr 0, .retAddr 0], [.int (F 0), .int (nI n)], MW (upA (upA A 18 (forN (hseeN n nb s h) n (A 18, A 20)).1) 20 (forN (hseeN n nb s h) n (A 18, A 20)).2) B F sw, 0, 0)) 4 rfl ?_
    rw [hC.2.1]
    refine wp_go (f' := ((if (nI n) ≤ (nI n) then 73 else 25), [.ref 17, .int (nI s), .int (nI (sd (2 ^ n - 1) s)), .int (nI n), .retAddr 0, .retAddr 0, .retAddr 0], [], MW (upA (upA A 18 (forN (hseeN n nb s h) n (A 18, A 20)).1) 20 (forN (hseeN n nb s h) n (A 18, A 20)).2) B F sw, 0, 0)) 1 rfl ?_
    refine wp_ite (fun _ => ?_) (fun h9 => absurd (nI_le (Nat.le_refl _) (by omega)) h9)
    refine wp_go (f' := (75, [.ref 17, .int (nI s), .int (nI (sd (2 ^ n - 1) s)), .int (nI n), .retAddr 0, .retAddr 0, .retAddr 0], [.int (nI (sd (2 ^ n - 1) s)), .int (nI 1)], MW (upA (upA A 18 (forN (hseeN n nb s h) n (A 18, A 20)).1) 20 (forN (hseeN n nb s h) n (A 18, A 20)).2) B F sw, 0, 0)) 2 rfl ?_
    refine wp_call rfl rfl rfl (ev_up (ev_bitCount (s := sd (2 ^ n - 1) s) (by omega) _) (by decide)) ?_
    refine wp_eq (f' := (78, [.ref 17, .int (nI s), .int (nI (sd (2 ^ n - 1) s)), .int (nI n), .retAddr 0, .retAddr 0, .retAddr 0], [.int (nI (pop (sd (2 ^ n - 1) s))), .int (nI 1)], MW (upA (upA A 18 (forN (hseeN n nb s h) n (A 18, A 20)).1) 20 (forN (hseeN n nb s h) n (A 18, A 20)).2) B F sw, 0, 0)) rfl ?_
    have hpp := pop_le (s := sd (2 ^ n - 1) s) (by omega)
    refine wp_go (f' := (79, [.ref 17, .int (nI s), .int (nI (sd (2 ^ n - 1) s)), .int (nI n), .retAddr 0, .retAddr 0, .retAddr 0], [.int ((nI 1) <<< ((nI (pop (sd (2 ^ n - 1) s))) &&& 31))], MW (upA (upA A 18 (forN (hseeN n nb s h) n (A 18, A 20)).1) 20 (forN (hseeN n nb s h) n (A 18, A 20)).2) B F sw, 0, 0)) 1 rfl ?_
    rw [bx_one (by omega)]
    refine wp_go (f' := (86, [.ref 17, .int (nI s), .int (nI (sd (2 ^ n - 1) s)), .int (nI (2 ^ (pop (sd (2 ^ n - 1) s)))), .int (nI 0), .int (nI 1), .retAddr 0], [], MW (upA (upA A 18 (forN (hseeN n nb s h) n (A 18, A 20)).1) 20 (forN (hseeN n nb s h) n (A 18, A 20)).2) B F sw, 0, 0)) 5 rfl ?_
    have hbt := fun v (hb : (sd (2 ^ n - 1) s).testBit v = true) (hv : v < n) => hsee_at (n := n) (nb := nb) (s := s) (h := h) (q0 := (A 18, A 20)) n v hv hb
    refine wp_deep (lp_hle hC (b := (sd (2 ^ n - 1) s)) hsdl (sg := pastN nb s) (bl := hbN n nb s h) (f := (forN (hseeN n nb s h) n (A 18, A 20)).1) (g := (forN (hseeN n nb s h) n (A 18, A 20)).2) ?_ ?_ (2 ^ pop (sd (2 ^ n - 1) s) - 1) 1 0 (A 21, A 22) _ ?_ (chk_all _ (by omega)) (subS_0 _) ?_) (by omega)
    · intro v hv hb
      exact ⟨(hbt v hb hv).1, past_lt hC.2.2.2 (by omega) (by have := tch_lt (nb := nb) (v := v) hn hs; omega)⟩
    · intro v hv hb
      exact ⟨(hbt v hb hv).2, tall_le (fun u hu _ => (hh u (by omega)).2)⟩
    · have : 1 ≤ 2 ^ pop (sd (2 ^ n - 1) s) := Nat.one_le_two_pow
      omega
    · intro t ht hle
      have : t = 0 := by omega
      subst this
      exact ⟨by rw [show rcN (pastN nb s) 0 = 0 from lowN_0 _]; exact hZ.1, by rw [hl_0]; exact hZ.2⟩
theorem ev_hLeast (hC : CI A F n nb) (hR : RI A n nb) {h : Nat → Nat} (hh : ∀ v, v < 10 → A 19 v = nI (h v) ∧ h v ≤ 1000) {s : Nat} (hs : s < 2 ^ n) (hZ : A 21 0 = nI 0 ∧ A 22 0 = nI 0) : ∃ f18 f20 f21 f22 : Nat → Int32, (f21 0 = nI 0 ∧ f22 0 = nI 0) ∧ mv_Ev xs Ls 4 34 [.ref 17, .int (nI s)] (MW A B F sw) (some (.int (nI (hleN n nb s h))), MW (upA (upA (upA (upA A 18 f18) 20 f20) 21 f21) 22 f22) B F sw, 0, 0) := by
  refine ⟨_, _, _, _, ?_, ev_hLeast0 hC hR hh hs hZ⟩
  have hn := hC.1
  have hp := pow10 hn
  have hp1 : 1 ≤ 2 ^ n := Nat.one_le_two_pow
  have hsdl : (sd (2 ^ n - 1) s) < 2 ^ n := by have h9 := sd_le (a := 2 ^ n - 1) (b := s); omega
  have hok := hsF_ok (b := (sd (2 ^ n - 1) s)) (R := (rcN (pastN nb s))) (L := (hlN n (pastN nb s) (hbN n nb s h))) (by omega) (2 ^ pop (sd (2 ^ n - 1) s) - 1) 0 (A 21, A 22) (chk_all _ (by omega)) (subS_0 _) (fun t ht hle => by
    have : t = 0 := by omega
    subst this
    exact ⟨by rw [show rcN (pastN nb s) 0 = 0 from lowN_0 _]; exact hZ.1, by rw [hl_0]; exact hZ.2⟩) 0 (subS_0 _) (Nat.zero_le _)
  rw [show rcN (pastN nb s) 0 = 0 from lowN_0 _, hl_0] at hok
  exact hok
end CC
