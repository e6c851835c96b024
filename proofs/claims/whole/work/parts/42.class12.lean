/-- a is within b -/
def subS (a b : Nat) : Prop := ∀ i, a.testBit i = true → b.testBit i = true
theorem subS_and {a b : Nat} (h : subS a b) : a &&& b = a := by
  apply Nat.eq_of_testBit_eq
  intro i
  rw [Nat.testBit_and]
  cases ha : a.testBit i with
  | false => rfl
  | true => rw [h i ha]; rfl
theorem subS_of {a b : Nat} (h : a &&& b = a) : subS a b := by
  intro i hi
  rw [← h, Nat.testBit_and] at hi
  cases hb : b.testBit i with
  | false => rw [hb] at hi; simp at hi
  | true => rfl
theorem subS_le {a b : Nat} (h : subS a b) : a ≤ b := sub_le h
theorem subS_0 (b : Nat) : subS 0 b := fun i h => by simp at h
theorem subS_tr {a b c : Nat} (h : subS a b) (g : subS b c) : subS a c := fun i hi => g i (h i hi)
theorem subS_sd {a b : Nat} (ha : a < 1024) : subS (sd a b) a := fun i hi => by rw [sd_bit a b i ha] at hi; cases h : a.testBit i with
  | true => rfl
  | false => rw [h] at hi; simp at hi
theorem subS_low {a : Nat} : subS (a &&& (a - 1)) a := fun i hi => by rw [Nat.testBit_and] at hi; cases h : a.testBit i with
  | true => rfl
  | false => rw [h] at hi; simp at hi
theorem and_half (a b : Nat) : (a &&& b) / 2 = (a / 2) &&& (b / 2) := by
  apply Nat.eq_of_testBit_eq
  intro i
  simp [Nat.testBit_and, Nat.testBit_div_two]
theorem and_odd (a b : Nat) : (a &&& b) % 2 = (a % 2) * (b % 2) := by
  have h : decide ((a &&& b) % 2 = 1) = (decide (a % 2 = 1) && decide (b % 2 = 1)) := by simpa [Nat.testBit_zero] using Nat.testBit_and a b 0
  rcases Nat.mod_two_eq_zero_or_one a with ha | ha <;> rcases Nat.mod_two_eq_zero_or_one b with hb | hb <;> rcases Nat.mod_two_eq_zero_or_one (a &&& b) with hc | hc <;> rw [ha, hb, hc] at h <;> rw [ha, hb, hc] <;> simp at h
/-- the next set within b behind s -/
def nxN (b s : Nat) : Nat := (s + (1024 - b)) &&& b
theorem nx_low : ∀ (w b s : Nat), b < 2 ^ w → s &&& b = s → (s + (2 ^ w - b - 1)) &&& b = s
  | 0, b, s, hb, hs => by
    have : b = 0 := by omega
    subst this
    simp at hs
    simp [← hs]
  | w + 1, b, s, hb, hs => by
    have e2 : 2 ^ (w + 1) = 2 * 2 ^ w := by rw [Nat.pow_succ]; omega
    have hs1 := and_half s b
    have hs2 := and_odd s b
    rw [hs] at hs1 hs2
    have hx1 := and_half (s + (2 ^ (w + 1) - b - 1)) b
    have hx2 := and_odd (s + (2 ^ (w + 1) - b - 1)) b
    have ih := nx_low w (b / 2) (s / 2) (by omega) hs1.symm
    generalize hX : (s + (2 ^ (w + 1) - b - 1)) &&& b = X at hx1 hx2
    have e : (s + (2 ^ (w + 1) - b - 1)) / 2 = s / 2 + (2 ^ w - b / 2 - 1) := by
      rcases Nat.mod_two_eq_zero_or_one b with hb2 | hb2
      · rw [hb2] at hs2; omega
      · omega
    rw [e, ih] at hx1
    rcases Nat.mod_two_eq_zero_or_one b with hb2 | hb2
    · rw [hb2] at hs2 hx2; omega
    · rw [hb2] at hs2 hx2
      have e3 : (s + (2 ^ (w + 1) - b - 1)) % 2 = s % 2 := by omega
      rw [e3] at hx2
      omega
theorem nx_min : ∀ (w b s t : Nat), b < 2 ^ w → s &&& b = s → t &&& b = t → s < t → (s + (2 ^ w - b)) &&& b ≤ t
  | 0, b, s, t, hb, hs, ht, hst => by
    have : b = 0 := by omega
    subst this
    simp at ht
    omega
  | w + 1, b, s, t, hb, hs, ht, hst => by
    have e2 : 2 ^ (w + 1) = 2 * 2 ^ w := by rw [Nat.pow_succ]; omega
    have hs1 := and_half s b
    have hs2 := and_odd s b
    have ht1 := and_half t b
    have ht2 := and_odd t b
    rw [hs] at hs1 hs2
    rw [ht] at ht1 ht2
    have hx1 := and_half (s + (2 ^ (w + 1) - b)) b
    have hx2 := and_odd (s + (2 ^ (w + 1) - b)) b
    generalize hX : (s + (2 ^ (w + 1) - b)) &&& b = X at hx1 hx2
    have ih := nx_min w (b / 2) (s / 2) (t / 2) (by omega) hs1.symm ht1.symm
    rcases Nat.mod_two_eq_zero_or_one b with hb2 | hb2
    · rw [hb2] at hs2 ht2 hx2
      have e : (s + (2 ^ (w + 1) - b)) / 2 = s / 2 + (2 ^ w - b / 2) := by omega
      rw [e] at hx1
      have h9 := ih (by omega)
      omega
    · rw [hb2] at hs2 ht2 hx2
      rcases Nat.mod_two_eq_zero_or_one s with h | h
      · have e : (s + (2 ^ (w + 1) - b)) / 2 = s / 2 + (2 ^ w - (b / 2) - 1) := by omega
        have e3 : (s + (2 ^ (w + 1) - b)) % 2 = 1 := by omega
        rw [e3] at hx2
        have h5 : (s / 2 + (2 ^ w - b / 2 - 1)) &&& (b / 2) = s / 2 := nx_low w (b / 2) (s / 2) (by omega) hs1.symm
        rw [e, h5] at hx1
        omega
      · have e : (s + (2 ^ (w + 1) - b)) / 2 = s / 2 + (2 ^ w - b / 2) := by omega
        rw [e] at hx1
        have h9 := ih (by omega)
        have e3 : (s + (2 ^ (w + 1) - b)) % 2 = 0 := by omega
        rw [e3] at hx2
        omega
/-- the checks that the sets within b come one after the other -/
def chkN (b : Nat) : Nat → Nat → Bool
  | 0, s => decide (s = b)
  | f + 1, s => decide (s < nxN b s) && chkN b f (nxN b s)
set_option maxRecDepth 100000 in
theorem chk_all : ∀ b, b < 1024 → chkN b (2 ^ pop b - 1) 0 = true := by decide +kernel
theorem nx_sub {b s : Nat} : subS (nxN b s) b := fun i hi => by
  unfold nxN at hi
  rw [Nat.testBit_and] at hi
  cases h : b.testBit i with
  | true => rfl
  | false => rw [h] at hi; simp at hi
theorem nx_next {b s t : Nat} (hb : b < 1024) (hs : subS s b) (ht : subS t b) (h : t < nxN b s) : t ≤ s := by
  rcases Nat.lt_or_ge s t with g | g
  · have := nx_min 10 b s t hb (subS_and hs) (subS_and ht) g
    unfold nxN at h
    have e : 2 ^ 10 = 1024 := by decide
    rw [e] at this
    omega
  · exact g
theorem nx_int {b s : Nat} (hb : b < 1024) (hs : s < 1024) : (nI s - nI b) &&& nI b = nI (nxN b s) := by
  have e : nI s - nI b = nI (s + (4294967296 - b)) := by
    apply Int32.toBitVec_inj.1
    show BitVec.ofNat 32 s - BitVec.ofNat 32 b = BitVec.ofNat 32 (s + (4294967296 - b))
    apply BitVec.eq_of_toNat_eq
    simp only [BitVec.toNat_sub, BitVec.toNat_ofNat]
    omega
  rw [e, bx_and]
  congr 1
  unfold nxN
  apply Nat.eq_of_testBit_eq
  intro i
  rw [Nat.testBit_and, Nat.testBit_and]
  by_cases hi : i < 10
  · have h1 : (s + (4294967296 - b)).testBit i = ((s + (4294967296 - b)) % 2 ^ 10).testBit i := by rw [Nat.testBit_mod_two_pow]; simp [hi]
    have h2 : (s + (1024 - b)).testBit i = ((s + (1024 - b)) % 2 ^ 10).testBit i := by rw [Nat.testBit_mod_two_pow]; simp [hi]
    rw [h1, h2, show (s + (4294967296 - b)) % 2 ^ 10 = (s + (1024 - b)) % 2 ^ 10 by omega]
  · rw [bt_big (n := 10) hb (by omega)]; simp
/-- the tallest of a set -/
def tallN (n : Nat) (h : Nat → Nat) (s : Nat) : Nat := forN (fun v m => if s.testBit v then (if m < h v then h v else m) else m) n 0
theorem tall_le {n : Nat} {h : Nat → Nat} {s K : Nat} (hh : ∀ v, v < n → s.testBit v = true → h v ≤ K) : tallN n h s ≤ K := by
  refine forN_inv (I := fun _ (m : Nat) => m ≤ K) (Nat.zero_le _) (fun v m hv hm => ?_) n (Nat.le_refl _)
  cases hb : s.testBit v with
  | false => simp; exact hm
  | true => simp only [if_true]; have := hh v hv hb; split <;> omega
theorem tall_congr {n : Nat} {h g : Nat → Nat} {s : Nat} (hh : ∀ v, v < n → s.testBit v = true → h v = g v) : tallN n h s = tallN n g s := by
  refine forN_congr (fun v hv m => ?_) _ n (Nat.le_refl _)
  cases hb : s.testBit v with
  | false => rfl
  | true => rw [hh v hv hb]
/-- the least height below the last of s, by the table L -/
def lbN (n : Nat) (b L : Nat → Nat) (s : Nat) : Nat := forN (fun v m => if s.testBit v then (if (if b v < L (sd s (2 ^ v)) then L (sd s (2 ^ v)) else b v) < m then (if b v < L (sd s (2 ^ v)) then L (sd s (2 ^ v)) else b v) else m) else m) n 1000
theorem lb_le {n : Nat} {b L : Nat → Nat} {s : Nat} : lbN n b L s ≤ 1000 := by
  refine forN_inv (I := fun _ (m : Nat) => m ≤ 1000) (Nat.le_refl _) (fun v m hv hm => ?_) n (Nat.le_refl _)
  (repeat' split) <;> omega
theorem lb_congr {n : Nat} {b c L M : Nat → Nat} {s : Nat} (hb : ∀ v, v < n → s.testBit v = true → b v = c v) (hL : ∀ v, v < n → s.testBit v = true → L (sd s (2 ^ v)) = M (sd s (2 ^ v))) : lbN n b L s = lbN n c M s := by
  refine forN_congr (fun v hv m => ?_) _ n (Nat.le_refl _)
  cases hq : s.testBit v with
  | false => rfl
  | true => rw [hb v hv hq, hL v hv hq]
def hlF (n : Nat) (g b : Nat → Nat) : Nat → Nat → Nat
  | 0, _ => 0
  | f + 1, s => if s = 0 then 0 else if pcN g s = s then 1 + lbN n b (hlF n g b f) s else (if hlF n g b f (pcN g s) < hlF n g b f (sd s (pcN g s)) then hlF n g b f (sd s (pcN g s)) else hlF n g b f (pcN g s))
/-- the least height of a set behind -/
def hlN (n : Nat) (g b : Nat → Nat) (s : Nat) : Nat := hlF n g b 1024 s
theorem sp_low {g : Nat → Nat} {s : Nat} : ∀ k, (itN (spS g s) k (2 ^ low s)).testBit (low s) = true
  | 0 => by simp [itN]
  | k + 1 => by
    simp only [itN, spS, Nat.testBit_or, sp_low k, Bool.true_or]
theorem pc_low {nb : Nat → Nat} {s : Nat} (h0 : ¬ s = 0) : (pcN nb s).testBit (low s) = true := by
  unfold pcN
  rw [if_neg h0]
  exact sp_low 10
theorem sd_lss {s t i : Nat} (hs : s < 1024) (h1 : s.testBit i = true) (h2 : t.testBit i = true) : sd s t < s := by
  refine Nat.lt_of_le_of_ne sd_le (fun e => ?_)
  have := sd_bit s t i hs
  rw [e, h1, h2] at this
  cases this
theorem hlF_fuel {n : Nat} {g b : Nat → Nat} : ∀ (f m s : Nat), s < 1024 → s ≤ f → s ≤ m → hlF n g b f s = hlF n g b m s
  | 0, 0, s, hs, h1, h2 => rfl
  | 0, m + 1, s, hs, h1, h2 => by
    have : s = 0 := by omega
    subst this; simp [hlF]
  | f + 1, 0, s, hs, h1, h2 => by
    have : s = 0 := by omega
    subst this; simp [hlF]
  | f + 1, m + 1, s, hs, h1, h2 => by
    simp only [hlF]
    by_cases h : s = 0
    · rw [if_pos h, if_pos h]
    · rw [if_neg h, if_neg h]
      have hp := pc_le (nb := g) hs
      have hq := sd_lss hs (low_bit hs h) (pc_low (nb := g) h)
      by_cases e : pcN g s = s
      · rw [if_pos e, if_pos e]
        congr 1
        refine lb_congr (fun v hv hb => rfl) (fun v hv hb => ?_)
        have h3 := sd_lss (t := 2 ^ v) hs hb Nat.testBit_two_pow_self
        exact hlF_fuel f m _ (by omega) (by omega) (by omega)
      · rw [if_neg e, if_neg e, hlF_fuel f m (pcN g s) (by omega) (by omega) (by omega), hlF_fuel f m (sd s (pcN g s)) (by omega) (by omega) (by omega)]
theorem hlF_succ (n : Nat) (g b : Nat → Nat) (f s : Nat) : hlF n g b (f + 1) s = if s = 0 then 0 else if pcN g s = s then 1 + lbN n b (hlF n g b f) s else (if hlF n g b f (pcN g s) < hlF n g b f (sd s (pcN g s)) then hlF n g b f (sd s (pcN g s)) else hlF n g b f (pcN g s)) := rfl
theorem hl_0 {n : Nat} {g b : Nat → Nat} : hlN n g b 0 = 0 := by
  show hlF n g b (1023 + 1) 0 = 0
  rw [hlF_succ, if_pos rfl]
theorem hl_fold {n : Nat} {g b : Nat → Nat} {s : Nat} (hs : s < 1024) (h0 : ¬ s = 0) : hlN n g b s = if pcN g s = s then 1 + lbN n b (hlN n g b) s else (if hlN n g b (pcN g s) < hlN n g b (sd s (pcN g s)) then hlN n g b (sd s (pcN g s)) else hlN n g b (pcN g s)) := by
  have hp := pc_le (nb := g) hs
  have hq := sd_lss hs (low_bit hs h0) (pc_low (nb := g) h0)
  have e0 : hlN n g b s = hlF n g b (1023 + 1) s := rfl
  rw [e0, hlF_succ, if_neg h0]
  by_cases e : pcN g s = s
  · rw [if_pos e, if_pos e]
    have e5 : lbN n b (hlF n g b 1023) s = lbN n b (hlN n g b) s := by
      refine lb_congr (fun v hv hb => rfl) (fun v hv hb => ?_)
      have h3 := sd_lss (t := 2 ^ v) hs hb Nat.testBit_two_pow_self
      exact hlF_fuel 1023 1024 _ (by omega) (by omega) (by omega)
    rw [e5]
  · rw [if_neg e, if_neg e]
    unfold hlN
    rw [hlF_fuel 1023 1024 (pcN g s) (by omega) (by omega) (by omega), hlF_fuel 1023 1024 (sd s (pcN g s)) (by omega) (by omega) (by omega)]
theorem hlF_le {n : Nat} {g b : Nat → Nat} : ∀ f s, hlF n g b f s ≤ 1001
  | 0, s => by simp [hlF]
  | f + 1, s => by
    have h1 := hlF_le (n := n) (g := g) (b := b) f (pcN g s)
    have h2 := hlF_le (n := n) (g := g) (b := b) f (sd s (pcN g s))
    have h3 := lb_le (n := n) (b := b) (L := hlF n g b f) (s := s)
    simp only [hlF]
    (repeat' split) <;> omega
theorem hl_le {n : Nat} {g b : Nat → Nat} {s : Nat} : hlN n g b s ≤ 1001 := hlF_le 1024 s
/-- the rows of the sets within b, one after the other -/
def hsF (b : Nat) (R L : Nat → Nat) : Nat → Nat → (Nat → Int32) × (Nat → Int32) → (Nat → Int32) × (Nat → Int32)
  | 0, _, q => q
  | f + 1, s, q => hsF b R L f (nxN b s) (upd q.1 (nxN b s) (nI (R (nxN b s))), upd q.2 (nxN b s) (nI (L (nxN b s))))
/-- they stand for all sets within b up to s -/
def hsI (b : Nat) (R L : Nat → Nat) (s : Nat) (q : (Nat → Int32) × (Nat → Int32)) : Prop := ∀ t, subS t b → t ≤ s → q.1 t = nI (R t) ∧ q.2 t = nI (L t)
theorem hsI_s {b : Nat} {R L : Nat → Nat} {s : Nat} {q : (Nat → Int32) × (Nat → Int32)} (hb : b < 1024) (hs : subS s b) (h : hsI b R L s q) : hsI b R L (nxN b s) (upd q.1 (nxN b s) (nI (R (nxN b s))), upd q.2 (nxN b s) (nI (L (nxN b s)))) := by
  intro t ht hle
  by_cases e : t = nxN b s
  · rw [e]; exact ⟨pk_us, pk_us⟩
  · have := h t ht (nx_next hb hs ht (by omega))
    exact ⟨by show upd q.1 (nxN b s) (nI (R (nxN b s))) t = _; rw [pk_un e]; exact this.1, by show upd q.2 (nxN b s) (nI (L (nxN b s))) t = _; rw [pk_un e]; exact this.2⟩
theorem hsF_ok {b : Nat} {R L : Nat → Nat} (hb : b < 1024) : ∀ f s q, chkN b f s = true → subS s b → hsI b R L s q → hsI b R L b (hsF b R L f s q)
  | 0, s, q, hc, hs, h => by
    have : s = b := of_decide_eq_true hc
    rw [this] at h; exact h
  | f + 1, s, q, hc, hs, h => by
    simp only [chkN, Bool.and_eq_true, decide_eq_true_eq] at hc
    exact hsF_ok hb f _ _ hc.2 nx_sub (hsI_s hb hs h)
section CC
variable {xs : Nat → Int32} {Ls : Nat} {A : Nat → Nat → Int32} {B : Nat → Nat → Int64} {F : Nat → Int32} {sw : Bool} {n : Nat} {nb : Nat → Nat}
theorem ev_spreadS {g : Nat → Nat} {s : Nat} (hs : s < 1024) (h0 : s ≠ 0) (hg : ∀ t, subS t s → A 21 t = nI (g t)) : mv_Ev xs Ls 1 21 [.ref 21, .int (nI s)] (MW A B F sw) (some (.int (nI (spN g s))), MW A B F sw, 0, 0) := by
  refine ev_of_wp rfl rfl rfl ?_
  have hlw := low_lt hs h0
  refine wp_go (f' := (4, [.ref 21, .int (nI s), .retAddr 0, .retAddr 0, .retAddr 0], [.int ((nI s) &&& (-(nI s)))], MW A B F sw, 0, 0)) 4 rfl ?_
  rw [bx_low (by omega) (by omega)]
  have hb1 : 2 ^ low s < 1024 := by first | omega | exact or_lt (by omega) (by omega) | exact and_lt (by omega) | exact and_lt_r (by omega) | exact sd_lt (by omega) | exact pow_lt (by omega)
  refine wp_go (f' := (7, [.ref 21, .int (nI s), .int (nI (2 ^ low s)), .int (nI 0), .retAddr 0], [], MW A B F sw, 0, 0)) 3 rfl ?_
  refine wh_ind (P := fun (k : Nat) => k ≤ 10 → ∀ d4 : Value, mv_Wp xs Ls 0 2 false (some .int) mv_c21 (7, [.ref 21, .int (nI s), .int (nI (itN (spS g s) k (2 ^ low s))), .int (nI k), d4], [], MW A B F sw, 0, 0) (some (.int (nI (spN g s))), MW A B F sw, 0, 0)) (fun k => 10 - k) ?_ 0 (Nat.zero_le _) _
  intro k ih hk d4
  have hle := sub_le (sp_sub (g := g) hs h0 k)
  have hgl := hg (itN (spS g s) k (2 ^ low s)) (sp_sub (g := g) hs h0 k)
  have hle2 := sub_le (sp_sub (g := g) hs h0 (k + 1))
  have hgr : (itN (spS g s) k (2 ^ low s)) ||| ((g (itN (spS g s) k (2 ^ low s))) &&& s) ≤ s := hle2
  refine wp_go (f' := ((if (nI 10) ≤ (nI k) then 40 else 13), [.ref 21, .int (nI s), .int (nI (itN (spS g s) k (2 ^ low s))), .int (nI k), d4], [], MW A B F sw, 0, 0)) 3 rfl ?_
  refine wp_ite (fun h1 => ?_) (fun h1 => ?_)
  · have h1 : 10 ≤ k := (nI_leI (a := 10) (b := k) (by omega) (by omega)).mp h1
    refine wp_go (f' := (41, [.ref 21, .int (nI s), .int (nI (itN (spS g s) k (2 ^ low s))), .int (nI k), d4], [.int (nI (itN (spS g s) k (2 ^ low s)))], MW A B F sw, 0, 0)) 1 rfl ?_
    have e : k = 10 := by omega
    subst e
    exact wp_iret rfl
  · have h1 : ¬ (10 ≤ k) := fun h9 => h1 ((nI_leI (a := 10) (b := k) (by omega) (by omega)).mpr h9)
    refine wp_go (f' := (16, [.ref 21, .int (nI s), .int (nI (itN (spS g s) k (2 ^ low s))), .int (nI k), d4], [.int (nI (itN (spS g s) k (2 ^ low s))), .ref 21, .int (nI (itN (spS g s) k (2 ^ low s)))], MW A B F sw, 0, 0)) 3 rfl ?_
    refine wp_iald rfl rfl (by omega) (by decide) ?_
    rw [hgl]
    refine wp_go (f' := (19, [.ref 21, .int (nI s), .int (nI (itN (spS g s) k (2 ^ low s))), .int (nI k), d4], [.int ((nI (g (itN (spS g s) k (2 ^ low s)))) &&& (nI s)), .int (nI (itN (spS g s) k (2 ^ low s)))], MW A B F sw, 0, 0)) 2 rfl ?_
    rw [bx_and]
    refine wp_go (f' := (20, [.ref 21, .int (nI s), .int (nI (itN (spS g s) k (2 ^ low s))), .int (nI k), d4], [.int ((nI (itN (spS g s) k (2 ^ low s))) ||| (nI ((g (itN (spS g s) k (2 ^ low s))) &&& s)))], MW A B F sw, 0, 0)) 1 rfl ?_
    rw [bx_or]
    refine wp_go (f' := ((if ¬ (nI ((itN (spS g s) k (2 ^ low s)) ||| ((g (itN (spS g s) k (2 ^ low s))) &&& s))) = (nI (itN (spS g s) k (2 ^ low s))) then 31 else 28), [.ref 21, .int (nI s), .int (nI (itN (spS g s) k (2 ^ low s))), .int (nI k), .int (nI ((itN (spS g s) k (2 ^ low s)) ||| ((g (itN (spS g s) k (2 ^ low s))) &&& s)))], [], MW A B F sw, 0, 0)) 4 rfl ?_
    refine wp_ite (fun h2 => ?_) (fun h2 => ?_)
    · have h2 : ¬ ((itN (spS g s) k (2 ^ low s)) ||| ((g (itN (spS g s) k (2 ^ low s))) &&& s) = itN (spS g s) k (2 ^ low s)) := fun h9 => h2 ((nI_eq (a := (itN (spS g s) k (2 ^ low s)) ||| ((g (itN (spS g s) k (2 ^ low s))) &&& s)) (b := itN (spS g s) k (2 ^ low s)) (by omega) (by omega)).mpr h9)
      refine wp_go (f' := (37, [.ref 21, .int (nI s), .int (nI ((itN (spS g s) k (2 ^ low s)) ||| ((g (itN (spS g s) k (2 ^ low s))) &&& s))), .int ((nI k) + 1), .int (nI ((itN (spS g s) k (2 ^ low s)) ||| ((g (itN (spS g s) k (2 ^ low s))) &&& s)))], [], MW A B F sw, 0, 0)) 3 rfl ?_
      rw [nI_1]
      refine wp_go (f' := (7, [.ref 21, .int (nI s), .int (nI ((itN (spS g s) k (2 ^ low s)) ||| ((g (itN (spS g s) k (2 ^ low s))) &&& s))), .int (nI (k + 1)), .int (nI ((itN (spS g s) k (2 ^ low s)) ||| ((g (itN (spS g s) k (2 ^ low s))) &&& s)))], [], MW A B F sw, 0, 0)) 1 rfl ?_
      exact ih (k + 1) (by omega) (by omega) (.int (nI ((itN (spS g s) k (2 ^ low s)) ||| ((g (itN (spS g s) k (2 ^ low s))) &&& s))))
    · have h2 := Classical.not_not.mp h2; have h2 : (itN (spS g s) k (2 ^ low s)) ||| ((g (itN (spS g s) k (2 ^ low s))) &&& s) = itN (spS g s) k (2 ^ low s) := (nI_eq (a := (itN (spS g s) k (2 ^ low s)) ||| ((g (itN (spS g s) k (2 ^ low s))) &&& s)) (b := itN (spS g s) k (2 ^ low s)) (by omega) (by omega)).mp h2
      refine wp_go (f' := (41, [.ref 21, .int (nI s), .int (nI (itN (spS g s) k (2 ^ low s))), .int (nI k), .int (nI ((itN (spS g s) k (2 ^ low s)) ||| ((g (itN (spS g s) k (2 ^ low s))) &&& s)))], [.int (nI (itN (spS g s) k (2 ^ low s)))], MW A B F sw, 0, 0)) 2 rfl ?_
      rw [show spN g s = (itN (spS g s) k (2 ^ low s)) from itN_fix2 h2 10 (by omega)]
      exact wp_iret rfl
theorem ev_hTall (hC : CI A F n nb) {h : Nat → Nat} (hh : ∀ v, v < 10 → A 19 v = nI (h v) ∧ h v ≤ 1000) {s : Nat} (hs : s < 1024) : mv_Ev xs Ls 1 37 [.ref 17, .int (nI s)] (MW A B F sw) (some (.int (nI (tallN n h s))), MW A B F sw, 0, 0) := by
  refine ev_of_wp rfl rfl rfl ?_
  have hn := hC.1
  have hp := pow10 hn
  have hp1 : 1 ≤ 2 ^ n := Nat.one_le_two_pow
  have hal := all_lt hn
  refine wp_go (f' := (4, [.ref 17, .int (nI s), .int (nI 0), .int (nI 0)], [], MW A B F sw, 0, 0)) 4 rfl ?_
  refine for_ind (P := fun (k : Nat) (m : Nat) => m ≤ 1000 → mv_Wp xs Ls 0 3 false (some .int) mv_c37 (4, [.ref 17, .int (nI s), .int (nI m), .int (nI k)], [], MW A B F sw, 0, 0) (some (.int (nI (tallN n h s))), MW A B F sw, 0, 0)) (f := fun v m => if s.testBit v then (if m < h v then h v else m) else m) (n := n) ?_ n 0 (Nat.le_refl _) ?_ ?_ 
  · intro k m hk ih hv 
    refine wp_go (f' := (12, [.ref 17, .int (nI s), .int (nI m), .int (nI k)], [.int (F 0), .int (nI k)], MW A B F sw, 0, 0)) 4 rfl ?_
    rw [hC.2.1]
    refine wp_go (f' := ((if (nI n) ≤ (nI k) then 40 else 15), [.ref 17, .int (nI s), .int (nI m), .int (nI k)], [], MW A B F sw, 0, 0)) 1 rfl ?_
    refine wp_ite (fun h9 => absurd h9 (nI_ge hk (by omega))) (fun _ => ?_)
    refine wp_go (f' := (20, [.ref 17, .int (nI s), .int (nI m), .int (nI k)], [.int (((nI s) >>> ((nI k) &&& 31)) &&& (nI 1))], MW A B F sw, 0, 0)) 5 rfl ?_
    rw [bx_bit (by omega) (by omega)]
    refine wp_go (f' := ((if (bI (s.testBit k)) = 0 then 34 else 23), [.ref 17, .int (nI s), .int (nI m), .int (nI k)], [], MW A B F sw, 0, 0)) 1 rfl ?_
    refine wp_ite (fun h1 => ?_) (fun h1 => ?_)
    · have h1 := bI_0.mp h1
      refine wp_go (f' := (37, [.ref 17, .int (nI s), .int (nI m), .int ((nI k) + 1)], [], MW A B F sw, 0, 0)) 1 rfl ?_
      rw [nI_1]
      refine wp_go (f' := (4, [.ref 17, .int (nI s), .int (nI m), .int (nI (k + 1))], [], MW A B F sw, 0, 0)) 1 rfl ?_
      have e9 : (if s.testBit k then (if m < h k then h k else m) else m) = m := by simp [h1]
      rw [e9] at ih
      exact ih (by omega)
    · have h1 := bI_n0 h1
      refine wp_go (f' := (29, [.ref 17, .int (nI s), .int (nI m), .int (nI k)], [.int (nI k), .ref 19, .int (nI m)], MW A B F sw, 0, 0)) 4 rfl ?_
      refine wp_iald rfl rfl (by omega) (by decide) ?_
      rw [(hh k (by omega)).1]
      have hhl := (hh k (by omega)).2
      refine wp_go (f' := (33, [.ref 17, .int (nI s), .int (nI m), .int (nI k)], [.int (if (nI m) < (nI (h k)) then nI (h k) else nI m)], MW A B F sw, 0, 0)) 1 rfl ?_
      rw [nI_ite (by first | omega | (split <;> omega)) (by first | omega | (split <;> omega))]
      refine wp_go (f' := (37, [.ref 17, .int (nI s), .int (nI (if m < h k then h k else m)), .int ((nI k) + 1)], [], MW A B F sw, 0, 0)) 2 rfl ?_
      rw [nI_1]
      refine wp_go (f' := (4, [.ref 17, .int (nI s), .int (nI (if m < h k then h k else m)), .int (nI (k + 1))], [], MW A B F sw, 0, 0)) 1 rfl ?_
      have e9 : (if s.testBit k then (if m < h k then h k else m) else m) = if m < h k then h k else m := by simp [h1]
      rw [e9] at ih
      exact ih (by split <;> omega)
  · intro hv 
    refine wp_go (f' := (12, [.ref 17, .int (nI s), .int (nI (tallN n h s)), .int (nI n)], [.int (F 0), .int (nI n)], MW A B F sw, 0, 0)) 4 rfl ?_
    rw [hC.2.1]
    refine wp_go (f' := ((if (nI n) ≤ (nI n) then 40 else 15), [.ref 17, .int (nI s), .int (nI (tallN n h s)), .int (nI n)], [], MW A B F sw, 0, 0)) 1 rfl ?_
    refine wp_ite (fun _ => ?_) (fun h9 => absurd (nI_le (Nat.le_refl _) (by omega)) h9)
    refine wp_go (f' := (41, [.ref 17, .int (nI s), .int (nI (tallN n h s)), .int (nI n)], [.int (nI (tallN n h s))], MW A B F sw, 0, 0)) 1 rfl ?_
    exact wp_iret rfl
  · omega
theorem ev_hBelow (hC : CI A F n nb) {s : Nat} (hs : s < 1024) {b L : Nat → Nat} (hb : ∀ v, v < n → s.testBit v = true → A 20 v = nI (b v) ∧ b v ≤ 1001) (hL : ∀ v, v < n → s.testBit v = true → A 22 (sd s (2 ^ v)) = nI (L (sd s (2 ^ v))) ∧ L (sd s (2 ^ v)) ≤ 1001) : mv_Ev xs Ls 1 38 [.ref 17, .int (nI s)] (MW A B F sw) (some (.int (nI (lbN n b L s))), MW A B F sw, 0, 0) := by
  refine ev_of_wp rfl rfl rfl ?_
  have hn := hC.1
  have hp := pow10 hn
  have hp1 : 1 ≤ 2 ^ n := Nat.one_le_two_pow
  have hal := all_lt hn
  refine wp_go (f' := (6, [.ref 17, .int (nI s), .int (nI 1000), .int (nI 0)], [], MW A B F sw, 0, 0)) 4 rfl ?_
  refine for_ind (P := fun (k : Nat) (m : Nat) => m ≤ 1000 → mv_Wp xs Ls 0 3 false (some .int) mv_c38 (6, [.ref 17, .int (nI s), .int (nI m), .int (nI k)], [], MW A B F sw, 0, 0) (some (.int (nI (lbN n b L s))), MW A B F sw, 0, 0)) (f := fun v m => if s.testBit v then (if (if b v < L (sd s (2 ^ v)) then L (sd s (2 ^ v)) else b v) < m then (if b v < L (sd s (2 ^ v)) then L (sd s (2 ^ v)) else b v) else m) else m) (n := n) ?_ n 1000 (Nat.le_refl _) ?_ ?_ 
  · intro k m hk ih hv 
    refine wp_go (f' := (14, [.ref 17, .int (nI s), .int (nI m), .int (nI k)], [.int (F 0), .int (nI k)], MW A B F sw, 0, 0)) 4 rfl ?_
    rw [hC.2.1]
    refine wp_go (f' := ((if (nI n) ≤ (nI k) then 57 else 17), [.ref 17, .int (nI s), .int (nI m), .int (nI k)], [], MW A B F sw, 0, 0)) 1 rfl ?_
    refine wp_ite (fun h9 => absurd h9 (nI_ge hk (by omega))) (fun _ => ?_)
    refine wp_go (f' := (22, [.ref 17, .int (nI s), .int (nI m), .int (nI k)], [.int (((nI s) >>> ((nI k) &&& 31)) &&& (nI 1))], MW A B F sw, 0, 0)) 5 rfl ?_
    rw [bx_bit (by omega) (by omega)]
    refine wp_go (f' := ((if (bI (s.testBit k)) = 0 then 51 else 25), [.ref 17, .int (nI s), .int (nI m), .int (nI k)], [], MW A B F sw, 0, 0)) 1 rfl ?_
    refine wp_ite (fun h1 => ?_) (fun h1 => ?_)
    · have h1 := bI_0.mp h1
      refine wp_go (f' := (54, [.ref 17, .int (nI s), .int (nI m), .int ((nI k) + 1)], [], MW A B F sw, 0, 0)) 1 rfl ?_
      rw [nI_1]
      refine wp_go (f' := (6, [.ref 17, .int (nI s), .int (nI m), .int (nI (k + 1))], [], MW A B F sw, 0, 0)) 1 rfl ?_
      have e9 : (fun v m => if s.testBit v then (if (if b v < L (sd s (2 ^ v)) then L (sd s (2 ^ v)) else b v) < m then (if b v < L (sd s (2 ^ v)) then L (sd s (2 ^ v)) else b v) else m) else m) k m = m := by simp only [h1, if_true, if_false, Bool.false_eq_true]
      rw [show (if s.testBit k then (if (if b k < L (sd s (2 ^ k)) then L (sd s (2 ^ k)) else b k) < m then (if b k < L (sd s (2 ^ k)) then L (sd s (2 ^ k)) else b k) else m) else m) = m from by simp only [h1, if_true, if_false, Bool.false_eq_true]] at ih
      exact ih (by omega)
    · have h1 := bI_n0 h1
      have hbit := h1
      have hsd : sd s (2 ^ k) < 1024 := sd_lt hs
      refine wp_go (f' := (31, [.ref 17, .int (nI s), .int (nI m), .int (nI k)], [.int (nI k), .ref 20, .int (nI m)], MW A B F sw, 0, 0)) 4 rfl ?_
      refine wp_iald rfl rfl (by omega) (by decide) ?_
      rw [(hb k hk hbit).1]
      have hbl := (hb k hk hbit).2
      refine wp_go (f' := (40, [.ref 17, .int (nI s), .int (nI m), .int (nI k)], [.int ((nI 1) <<< ((nI k) &&& 31)), .int (nI s), .ref 22, .int (nI (b k)), .int (nI m)], MW A B F sw, 0, 0)) 6 rfl ?_
      rw [bx_one (by omega)]
      refine wp_go (f' := (43, [.ref 17, .int (nI s), .int (nI m), .int (nI k)], [.int ((nI s) &&& ((nI (2 ^ k)) ^^^ (-1))), .ref 22, .int (nI (b k)), .int (nI m)], MW A B F sw, 0, 0)) 3 rfl ?_
      rw [bx_sd (by omega)]
      refine wp_iald rfl rfl (by omega) (by decide) ?_
      rw [(hL k hk hbit).1]
      have hLl := (hL k hk hbit).2
      refine wp_go (f' := (47, [.ref 17, .int (nI s), .int (nI m), .int (nI k)], [.int (if (nI (b k)) < (nI (L (sd s (2 ^ k)))) then nI (L (sd s (2 ^ k))) else nI (b k)), .int (nI m)], MW A B F sw, 0, 0)) 1 rfl ?_
      rw [nI_ite (by first | omega | (split <;> omega)) (by first | omega | (split <;> omega))]
      refine wp_go (f' := (50, [.ref 17, .int (nI s), .int (nI m), .int (nI k)], [.int (if (nI (if b k < L (sd s (2 ^ k)) then L (sd s (2 ^ k)) else b k)) < (nI m) then nI (if b k < L (sd s (2 ^ k)) then L (sd s (2 ^ k)) else b k) else nI m)], MW A B F sw, 0, 0)) 1 rfl ?_
      rw [nI_ite (by first | omega | (split <;> omega)) (by first | omega | (split <;> omega))]
      refine wp_go (f' := (54, [.ref 17, .int (nI s), .int (nI (if (if b k < L (sd s (2 ^ k)) then L (sd s (2 ^ k)) else b k) < m then (if b k < L (sd s (2 ^ k)) then L (sd s (2 ^ k)) else b k) else m)), .int ((nI k) + 1)], [], MW A B F sw, 0, 0)) 2 rfl ?_
      rw [nI_1]
      refine wp_go (f' := (6, [.ref 17, .int (nI s), .int (nI (if (if b k < L (sd s (2 ^ k)) then L (sd s (2 ^ k)) else b k) < m then (if b k < L (sd s (2 ^ k)) then L (sd s (2 ^ k)) else b k) else m)), .int (nI (k + 1))], [], MW A B F sw, 0, 0)) 1 rfl ?_
      have e9 : (fun v m => if s.testBit v then (if (if b v < L (sd s (2 ^ v)) then L (sd s (2 ^ v)) else b v) < m then (if b v < L (sd s (2 ^ v)) then L (sd s (2 ^ v)) else b v) else m) else m) k m = if (if b k < L (sd s (2 ^ k)) then L (sd s (2 ^ k)) else b k) < m then (if b k < L (sd s (2 ^ k)) then L (sd s (2 ^ k)) else b k) else m := by simp only [h1, if_true, if_false, Bool.false_eq_true]
      rw [show (if s.testBit k then (if (if b k < L (sd s (2 ^ k)) then L (sd s (2 ^ k)) else b k) < m then (if b k < L (sd s (2 ^ k)) then L (sd s (2 ^ k)) else b k) else m) else m) = if (if b k < L (sd s (2 ^ k)) then L (sd s (2 ^ k)) else b k) < m then (if b k < L (sd s (2 ^ k)) then L (sd s (2 ^ k)) else b k) else m from by simp only [h1, if_true, if_false, Bool.false_eq_true]] at ih
      exact ih (by (repeat' split) <;> omega)
  · intro hv 
    refine wp_go (f' := (14, [.ref 17, .int (nI s), .int (nI (lbN n b L s)), .int (nI n)], [.int (F 0), .int (nI n)], MW A B F sw, 0, 0)) 4 rfl ?_
    rw [hC.2.1]
    refine wp_go (f' := ((if (nI n) ≤ (nI n) then 57 else 17), [.ref 17, .int (nI s), .int (nI (lbN n b L s)), .int (nI n)], [], MW A B F sw, 0, 0)) 1 rfl ?_
    refine wp_ite (fun _ => ?_) (fun h9 => absurd (nI_le (Nat.le_refl _) (by omega)) h9)
    refine wp_go (f' := (58, [.ref 17, .int (nI s), .int (nI (lbN n b L s)), .int (nI n)], [.int (nI (lbN n b L s))], MW A B F sw, 0, 0)) 1 rfl ?_
    exact wp_iret rfl
  · omega
end CC
