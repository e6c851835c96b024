/-! bands of the reference -/
def stN (r : Nat → Nat) (many v : Nat) : Bool := forN (fun k b => b || decide (r k = v)) many false
/-- the place of w among the first, one more than it is, or 0 -/
def plN (r : Nat → Nat) (many w : Nat) : Nat := forN (fun k p => if r k = w then k + 1 else p) many 0
def plA (n : Nat) (r : Nat → Nat) (many : Nat) (g : Nat → Int32) : Nat → Int32 := forN (fun k f => upd f (r k) (nI k)) many (forN (fun v f => upd f v (-1)) n g)
theorem pl_le {r : Nat → Nat} {many w : Nat} : plN r many w ≤ many := by
  refine forN_inv (I := fun k (p : Nat) => p ≤ k) (Nat.le_refl _) (fun k p hk hp => ?_) many (Nat.le_refl _)
  split
  · omega
  · omega
theorem clr_at {n w : Nat} (hw : w < n) {g : Nat → Int32} : forN (fun v f => upd f v (-1)) n g w = -1 := by
  have h := forN_inv (f := fun v (f : Nat → Int32) => upd f v (-1)) (n := n) (a := g) (I := fun k (f : Nat → Int32) => w < k → f w = -1) (fun h => absurd h (Nat.not_lt_zero _)) (fun k f hk hf h => ?_) n (Nat.le_refl _)
  · exact h hw
  · by_cases e : w = k
    · rw [e, pk_us]
    · rw [pk_un e]; exact hf (by omega)
theorem pl_at {n : Nat} {r : Nat → Nat} {many w : Nat} (hw : w < n) {g : Nat → Int32} : plA n r many g w = nI (plN r many w) + (-1) := by
  unfold plA plN
  suffices h : ∀ j, forN (fun k f => upd f (r k) (nI k)) j (forN (fun v f => upd f v (-1)) n g) w = nI (forN (fun k p => if r k = w then k + 1 else p) j 0) + (-1) from h many
  intro j
  induction j with
  | zero => show forN (fun v f => upd f v (-1)) n g w = nI 0 + (-1); rw [clr_at hw]; decide
  | succ j ih =>
    show upd _ (r j) (nI j) w = nI (if r j = w then j + 1 else _) + (-1)
    by_cases e : r j = w
    · rw [if_pos e, ← e, pk_us, pk_m1]
    · rw [if_neg e, pk_un (fun h => e h.symm)]; exact ih
def bdW (n : Nat) (nb : Nat → Nat) (r : Nat → Nat) (many width k : Nat) : Nat → (Bool × Nat) → (Bool × Nat) := fun w q => if (nb (r k)).testBit w = true then (if plN r many w = 0 then (q.1, q.2 + 1) else (q.1 && (decide (plN r many w ≤ width + k + 1) && decide (k + 1 ≤ width + plN r many w)), q.2)) else q
def bdK (n : Nat) (nb : Nat → Nat) (r : Nat → Nat) (many width : Nat) : Nat → Bool → Bool := fun k b => (forN (bdW n nb r many width k) n (b, 0)).1 && (decide ((forN (bdW n nb r many width k) n (b, 0)).2 = 0) || decide (many + (forN (bdW n nb r many width k) n (b, 0)).2 ≤ width + 1 + k))
/-- whether the first of a row may be those of a band -/
def isBN (n : Nat) (nb : Nat → Nat) (r : Nat → Nat) (many width : Nat) : Bool := forN (bdK n nb r many width) many true
theorem bdW_le {n : Nat} {nb : Nat → Nat} {r : Nat → Nat} {many width k : Nat} {b : Bool} (j : Nat) : (forN (bdW n nb r many width k) j (b, 0)).2 ≤ j := by
  refine forN_inv (I := fun w (q : Bool × Nat) => q.2 ≤ w) (Nat.le_refl _) (fun w q hw hq => ?_) j (Nat.le_refl _)
  unfold bdW
  split
  · split
    · show q.2 + 1 ≤ w + 1; omega
    · show q.2 ≤ w + 1; omega
  · omega
theorem m1_ne {p : Nat} (hp : p ≤ 1000) : nI p + (-1) = -1 ↔ p = 0 := by
  constructor
  · intro h
    cases p with
    | zero => rfl
    | succ p => rw [pk_m1] at h; exact absurd h (nI_n1 (by omega))
  · intro h; rw [h]; decide
theorem i32_sub {a b : Nat} (ha : a ≤ 1000) (hb : b ≤ 1000) : (nI a - nI b).toInt = (a : Int) - b := by
  rw [Int32.toInt_sub, nI_toInt (by omega), nI_toInt (by omega)]
  exact Int.bmod_eq_of_le (by omega) (by omega)
theorem i32_sub_lt {a b c : Nat} (ha : a ≤ 1000) (hb : b ≤ 1000) (hc : c ≤ 1000) : nI c < nI a - nI b ↔ c + b < a := by
  rw [Int32.lt_iff_toInt_lt, i32_sub ha hb, nI_toInt (by omega)]
  omega
theorem pl_at1 {n : Nat} {r : Nat → Nat} {many w : Nat} (hw : w < n) (h0 : ¬ plN r many w = 0) {g : Nat → Int32} : plA n r many g w = nI (plN r many w - 1) := by
  rw [pl_at hw]
  have h : plN r many w = plN r many w - 1 + 1 := by omega
  rw [h, pk_m1]
  rfl
section MM
variable {xs : Nat → Int32} {Ls : Nat} {A : Nat → Nat → Int32} {B : Nat → Nat → Int64} {F : Nat → Int32} {sw : Bool} {n : Nat} {nb : Nat → Nat}
theorem ev_stands (hM : MI A F n nb) {r : Nat → Nat} {many : Nat} (hmn : many ≤ n) (hr : ∀ j, j < many → A 32 j = nI (r j) ∧ r j < n) {v : Nat} (hv : v < n) : mv_Ev xs Ls 1 109 [.ref 28, .int (nI many), .int (nI v)] (MW A B F sw) (some (.int (bI (stN r many v))), MW A B F sw, 0, 0) := by
  refine ev_of_wp rfl rfl rfl ?_
  have hn := hM.1
  refine wp_go (f' := (5, [.ref 28, .int (nI many), .int (nI v), .int (nI 0), .int (nI 0)], [], MW A B F sw, 0, 0)) 4 rfl ?_
  refine wp_eq (f' := (5, [.ref 28, .int (nI many), .int (nI v), .int (bI false), .int (nI 0)], [], MW A B F sw, 0, 0)) rfl ?_
  refine for_ind (P := fun (k : Nat) (b : Bool) => mv_Wp xs Ls 0 6 false (some .boolean) mv_c109 (5, [.ref 28, .int (nI many), .int (nI v), .int (bI b), .int (nI k)], [], MW A B F sw, 0, 0) (some (.int (bI (stN r many v))), MW A B F sw, 0, 0)) (f := fun k b => b || decide (r k = v)) (n := many) ?_ many false (Nat.le_refl _) ?_
  · intro k b hk ih
    refine wp_go (f' := ((if (nI many) ≤ (nI k) then 38 else 11), [.ref 28, .int (nI many), .int (nI v), .int (bI b), .int (nI k)], [], MW A B F sw, 0, 0)) 3 rfl ?_
    refine wp_ite (fun h9 => absurd h9 (nI_ge hk (by omega))) (fun _ => ?_)
    refine wp_go (f' := ((if ¬ (bI b) = 0 then 26 else 15), [.ref 28, .int (nI many), .int (nI v), .int (bI b), .int (nI k)], [], MW A B F sw, 0, 0)) 2 rfl ?_
    refine wp_ite (fun h1 => ?_) (fun h1 => ?_)
    · have h1 := bI_n0 h1
      refine wp_go (f' := (35, [.ref 28, .int (nI many), .int (nI v), .int (nI 1), .int ((nI k) + 1)], [], MW A B F sw, 0, 0)) 4 rfl ?_
      rw [nI_1]
      refine wp_go (f' := (5, [.ref 28, .int (nI many), .int (nI v), .int (nI 1), .int (nI (k + 1))], [], MW A B F sw, 0, 0)) 1 rfl ?_
      refine wp_eq ?_ ih
      simp [h1, bIT, bIF, nI1, nI0]
    · have h1 := Classical.not_not.mp h1; have h1 := bI_0.mp h1
      refine wp_go (f' := (21, [.ref 28, .int (nI many), .int (nI v), .int (bI b), .int (nI k)], [.int (nI k), .ref 32], MW A B F sw, 0, 0)) 3 rfl ?_
      refine wp_iald rfl rfl (by omega) (by decide) ?_
      rw [(hr k (by omega)).1]
      have hrk := (hr k (by omega)).2
      refine wp_go (f' := ((if ¬ (nI (r k)) = (nI v) then 30 else 26), [.ref 28, .int (nI many), .int (nI v), .int (bI b), .int (nI k)], [], MW A B F sw, 0, 0)) 2 rfl ?_
      refine wp_ite (fun h2 => ?_) (fun h2 => ?_)
      · have h2 : ¬ (r k = v) := fun h9 => h2 ((nI_eq (a := r k) (b := v) (by omega) (by omega)).mpr h9)
        refine wp_go (f' := (35, [.ref 28, .int (nI many), .int (nI v), .int (nI 0), .int ((nI k) + 1)], [], MW A B F sw, 0, 0)) 3 rfl ?_
        rw [nI_1]
        refine wp_go (f' := (5, [.ref 28, .int (nI many), .int (nI v), .int (nI 0), .int (nI (k + 1))], [], MW A B F sw, 0, 0)) 1 rfl ?_
        refine wp_eq ?_ ih
        simp [h1, h2, bIT, bIF, nI1, nI0]
      · have h2 := Classical.not_not.mp h2; have h2 : r k = v := (nI_eq (a := r k) (b := v) (by omega) (by omega)).mp h2
        refine wp_go (f' := (35, [.ref 28, .int (nI many), .int (nI v), .int (nI 1), .int ((nI k) + 1)], [], MW A B F sw, 0, 0)) 4 rfl ?_
        rw [nI_1]
        refine wp_go (f' := (5, [.ref 28, .int (nI many), .int (nI v), .int (nI 1), .int (nI (k + 1))], [], MW A B F sw, 0, 0)) 1 rfl ?_
        refine wp_eq ?_ ih
        simp [h1, h2, bIT, bIF, nI1, nI0]
  · skip
    refine wp_go (f' := ((if (nI many) ≤ (nI many) then 38 else 11), [.ref 28, .int (nI many), .int (nI v), .int (bI (stN r many v)), .int (nI many)], [], MW A B F sw, 0, 0)) 3 rfl ?_
    refine wp_ite (fun _ => ?_) (fun h9 => absurd (nI_le (Nat.le_refl _) (by omega)) h9)
    refine wp_go (f' := (39, [.ref 28, .int (nI many), .int (nI v), .int (bI (stN r many v)), .int (nI many)], [.int (bI (stN r many v))], MW A B F sw, 0, 0)) 1 rfl ?_
    exact wp_zret rfl (by cases stN r many v <;> first | exact Or.inl rfl | exact Or.inr rfl)
theorem ev_isBand (hM : MI A F n nb) {r : Nat → Nat} {many : Nat} (hmn : many ≤ n) (hr : ∀ j, j < many → A 32 j = nI (r j) ∧ r j < n) {width : Nat} (hwd : width ≤ 100) : mv_Ev xs Ls 2 110 [.ref 28, .int (nI many), .int (nI width)] (MW A B F sw) (some (.int (bI (isBN n nb r many width))), MW (upA A 36 (plA n r many (A 36))) B F sw, 0, 0) := by
  refine ev_of_wp rfl rfl rfl ?_
  have hn := hM.1
  have hp := pow10 hn
  have hp1 : 1 ≤ 2 ^ n := Nat.one_le_two_pow
  have hal := all_lt hn
  refine wp_go (f' := (5, [.ref 28, .int (nI many), .int (nI width), .int (nI 1), .int (nI 0), .retAddr 0, .retAddr 0], [], MW A B F sw, 0, 0)) 4 rfl ?_
  refine wp_eq (f' := (5, [.ref 28, .int (nI many), .int (nI width), .int (bI true), .int (nI 0), .retAddr 0, .retAddr 0], [], MW (upA A 36 (A 36)) B F sw, 0, 0)) rfl ?_
  refine for_ind (P := fun (k : Nat) (f : Nat → Int32) => mv_Wp xs Ls 1 6 false (some .boolean) mv_c110 (5, [.ref 28, .int (nI many), .int (nI width), .int (bI true), .int (nI k), .retAddr 0, .retAddr 0], [], MW (upA A 36 f) B F sw, 0, 0) (some (.int (bI (isBN n nb r many width))), MW (upA A 36 (plA n r many (A 36))) B F sw, 0, 0)) (f := fun v f => upd f v (-1)) (n := n) ?_ n (A 36) (Nat.le_refl _) ?_
  · intro k f hk ih
    refine wp_go (f' := (11, [.ref 28, .int (nI many), .int (nI width), .int (bI true), .int (nI k), .retAddr 0, .retAddr 0], [.int (F 6), .int (nI k)], MW (upA A 36 f) B F sw, 0, 0)) 3 rfl ?_
    rw [hM.2.1]
    refine wp_go (f' := ((if (nI n) ≤ (nI k) then 28 else 14), [.ref 28, .int (nI many), .int (nI width), .int (bI true), .int (nI k), .retAddr 0, .retAddr 0], [], MW (upA A 36 f) B F sw, 0, 0)) 1 rfl ?_
    refine wp_ite (fun h9 => absurd h9 (nI_ge hk (by omega))) (fun _ => ?_)
    refine wp_go (f' := (21, [.ref 28, .int (nI many), .int (nI width), .int (bI true), .int (nI k), .retAddr 0, .retAddr 0], [.int (-1), .int (nI k), .ref 36], MW (upA A 36 f) B F sw, 0, 0)) 4 rfl ?_
    refine wp_iast rfl rfl (by omega) (by decide) ?_
    refine wp_eq (f' := (22, [.ref 28, .int (nI many), .int (nI width), .int (bI true), .int (nI k), .retAddr 0, .retAddr 0], [], MW (upA A 36 (upd f k (-1))) B F sw, 0, 0)) rfl ?_
    refine wp_go (f' := (25, [.ref 28, .int (nI many), .int (nI width), .int (bI true), .int ((nI k) + 1), .retAddr 0, .retAddr 0], [], MW (upA A 36 (upd f k (-1))) B F sw, 0, 0)) 1 rfl ?_
    rw [nI_1]
    refine wp_go (f' := (5, [.ref 28, .int (nI many), .int (nI width), .int (bI true), .int (nI (k + 1)), .retAddr 0, .retAddr 0], [], MW (upA A 36 (upd f k (-1))) B F sw, 0, 0)) 1 rfl ?_
    exact ih
  · skip
    refine wp_go (f' := (11, [.ref 28, .int (nI many), .int (nI width), .int (bI true), .int (nI n), .retAddr 0, .retAddr 0], [.int (F 6), .int (nI n)], MW (upA A 36 (forN (fun v f => upd f v (-1)) n (A 36))) B F sw, 0, 0)) 3 rfl ?_
    rw [hM.2.1]
    refine wp_go (f' := ((if (nI n) ≤ (nI n) then 28 else 14), [.ref 28, .int (nI many), .int (nI width), .int (bI true), .int (nI n), .retAddr 0, .retAddr 0], [], MW (upA A 36 (forN (fun v f => upd f v (-1)) n (A 36))) B F sw, 0, 0)) 1 rfl ?_
    refine wp_ite (fun _ => ?_) (fun h9 => absurd (nI_le (Nat.le_refl _) (by omega)) h9)
    refine wp_go (f' := (31, [.ref 28, .int (nI many), .int (nI width), .int (bI true), .int (nI 0), .retAddr 0, .retAddr 0], [], MW (upA A 36 (forN (fun v f => upd f v (-1)) n (A 36))) B F sw, 0, 0)) 2 rfl ?_
    refine for_ind (P := fun (k : Nat) (f : Nat → Int32) => mv_Wp xs Ls 1 6 false (some .boolean) mv_c110 (31, [.ref 28, .int (nI many), .int (nI width), .int (bI true), .int (nI k), .retAddr 0, .retAddr 0], [], MW (upA A 36 f) B F sw, 0, 0) (some (.int (bI (isBN n nb r many width))), MW (upA A 36 (plA n r many (A 36))) B F sw, 0, 0)) (f := fun k f => upd f (r k) (nI k)) (n := many) ?_ many (forN (fun v f => upd f v (-1)) n (A 36)) (Nat.le_refl _) ?_
    · intro k f hk ih
      refine wp_go (f' := ((if (nI many) ≤ (nI k) then 57 else 37), [.ref 28, .int (nI many), .int (nI width), .int (bI true), .int (nI k), .retAddr 0, .retAddr 0], [], MW (upA A 36 f) B F sw, 0, 0)) 3 rfl ?_
      refine wp_ite (fun h9 => absurd h9 (nI_ge hk (by omega))) (fun _ => ?_)
      refine wp_go (f' := (47, [.ref 28, .int (nI many), .int (nI width), .int (bI true), .int (nI k), .retAddr 0, .retAddr 0], [.int (nI k), .ref 32, .ref 36], MW (upA A 36 f) B F sw, 0, 0)) 5 rfl ?_
      refine wp_iald rfl rfl (by omega) (by decide) ?_
      refine wp_eq (f' := (48, [.ref 28, .int (nI many), .int (nI width), .int (bI true), .int (nI k), .retAddr 0, .retAddr 0], [.int ((A 32) k), .ref 36], MW (upA A 36 f) B F sw, 0, 0)) rfl ?_
      rw [(hr k (by omega)).1]
      have hrk := (hr k (by omega)).2
      refine wp_go (f' := (50, [.ref 28, .int (nI many), .int (nI width), .int (bI true), .int (nI k), .retAddr 0, .retAddr 0], [.int (nI k), .int (nI (r k)), .ref 36], MW (upA A 36 f) B F sw, 0, 0)) 1 rfl ?_
      refine wp_iast rfl rfl (by omega) (by decide) ?_
      refine wp_eq (f' := (51, [.ref 28, .int (nI many), .int (nI width), .int (bI true), .int (nI k), .retAddr 0, .retAddr 0], [], MW (upA A 36 (upd f (r k) (nI k))) B F sw, 0, 0)) rfl ?_
      refine wp_go (f' := (54, [.ref 28, .int (nI many), .int (nI width), .int (bI true), .int ((nI k) + 1), .retAddr 0, .retAddr 0], [], MW (upA A 36 (upd f (r k) (nI k))) B F sw, 0, 0)) 1 rfl ?_
      rw [nI_1]
      refine wp_go (f' := (31, [.ref 28, .int (nI many), .int (nI width), .int (bI true), .int (nI (k + 1)), .retAddr 0, .retAddr 0], [], MW (upA A 36 (upd f (r k) (nI k))) B F sw, 0, 0)) 1 rfl ?_
      exact ih
    · skip
      refine wp_go (f' := ((if (nI many) ≤ (nI many) then 57 else 37), [.ref 28, .int (nI many), .int (nI width), .int (bI true), .int (nI many), .retAddr 0, .retAddr 0], [], MW (upA A 36 (plA n r many (A 36))) B F sw, 0, 0)) 3 rfl ?_
      refine wp_ite (fun _ => ?_) (fun h9 => absurd (nI_le (Nat.le_refl _) (by omega)) h9)
      refine wp_go (f' := (60, [.ref 28, .int (nI many), .int (nI width), .int (bI true), .int (nI 0), .retAddr 0, .retAddr 0], [], MW (upA A 36 (plA n r many (A 36))) B F sw, 0, 0)) 2 rfl ?_
      refine for_ind (P := fun (k : Nat) (b : Bool) => ∀ e5 e6 : Value, mv_Wp xs Ls 1 6 false (some .boolean) mv_c110 (60, [.ref 28, .int (nI many), .int (nI width), .int (bI b), .int (nI k), e5, e6], [], MW (upA A 36 (plA n r many (A 36))) B F sw, 0, 0) (some (.int (bI (isBN n nb r many width))), MW (upA A 36 (plA n r many (A 36))) B F sw, 0, 0)) (f := bdK n nb r many width) (n := many) ?_ many true (Nat.le_refl _) ?_ _ _
      · intro k b hk ih e5 e6
        have hrk := (hr k hk).2
        refine wp_go (f' := ((if (nI many) ≤ (nI k) then 192 else 66), [.ref 28, .int (nI many), .int (nI width), .int (bI b), .int (nI k), e5, e6], [], MW (upA A 36 (plA n r many (A 36))) B F sw, 0, 0)) 3 rfl ?_
        refine wp_ite (fun h9 => absurd h9 (nI_ge hk (by omega))) (fun _ => ?_)
        refine wp_go (f' := (72, [.ref 28, .int (nI many), .int (nI width), .int (bI b), .int (nI k), .int (nI 0), .int (nI 0)], [], MW (upA A 36 (plA n r many (A 36))) B F sw, 0, 0)) 4 rfl ?_
        refine for_ind (P := fun (w : Nat) (u : Bool × Nat) => u.2 ≤ w → mv_Wp xs Ls 1 6 false (some .boolean) mv_c110 (72, [.ref 28, .int (nI many), .int (nI width), .int (bI u.1), .int (nI k), .int (nI u.2), .int (nI w)], [], MW (upA A 36 (plA n r many (A 36))) B F sw, 0, 0) (some (.int (bI (isBN n nb r many width))), MW (upA A 36 (plA n r many (A 36))) B F sw, 0, 0)) (f := bdW n nb r many width k) (n := n) ?_ n (b, 0) (Nat.le_refl _) ?_ (Nat.le_refl _)
        · intro w u hw ih2 hu
          have hpl := pl_le (r := r) (many := many) (w := w)
          cases hb : (nb (r k)).testBit w with
          | false =>
            have e1 : bdW n nb r many width k w u = u := by unfold bdW; rw [if_neg (by rw [hb]; decide)]
            rw [e1] at ih2
            refine wp_go (f' := (78, [.ref 28, .int (nI many), .int (nI width), .int (bI u.1), .int (nI k), .int (nI u.2), .int (nI w)], [.int (F 6), .int (nI w)], MW (upA A 36 (plA n r many (A 36))) B F sw, 0, 0)) 3 rfl ?_
            rw [hM.2.1]
            refine wp_go (f' := ((if (nI n) ≤ (nI w) then 158 else 81), [.ref 28, .int (nI many), .int (nI width), .int (bI u.1), .int (nI k), .int (nI u.2), .int (nI w)], [], MW (upA A 36 (plA n r many (A 36))) B F sw, 0, 0)) 1 rfl ?_
            refine wp_ite (fun h9 => absurd h9 (nI_ge hw (by omega))) (fun _ => ?_)
            refine wp_go (f' := (88, [.ref 28, .int (nI many), .int (nI width), .int (bI u.1), .int (nI k), .int (nI u.2), .int (nI w)], [.int (nI k), .ref 32, .ref 28], MW (upA A 36 (plA n r many (A 36))) B F sw, 0, 0)) 4 rfl ?_
            refine wp_iald rfl rfl (by omega) (by decide) ?_
            refine wp_eq (f' := (89, [.ref 28, .int (nI many), .int (nI width), .int (bI u.1), .int (nI k), .int (nI u.2), .int (nI w)], [.int ((A 32) k), .ref 28], MW (upA A 36 (plA n r many (A 36))) B F sw, 0, 0)) rfl ?_
            rw [(hr k (by omega)).1]
            have hrk := (hr k (by omega)).2
            refine wp_go (f' := (91, [.ref 28, .int (nI many), .int (nI width), .int (bI u.1), .int (nI k), .int (nI u.2), .int (nI w)], [.int (nI w), .int (nI (r k)), .ref 28], MW (upA A 36 (plA n r many (A 36))) B F sw, 0, 0)) 1 rfl ?_
            refine wp_call rfl rfl rfl (ev_up (ev_isEdge (A := upA A 36 (plA n r many (A 36))) hM (r k) w (by omega) (by omega)) (by decide)) ?_
            refine wp_eq (f' := (94, [.ref 28, .int (nI many), .int (nI width), .int (bI u.1), .int (nI k), .int (nI u.2), .int (nI w)], [.int (bI ((nb (r k)).testBit w))], MW (upA A 36 (plA n r many (A 36))) B F sw, 0, 0)) rfl ?_
            refine wp_go (f' := ((if (bI ((nb (r k)).testBit w)) = 0 then 152 else 97), [.ref 28, .int (nI many), .int (nI width), .int (bI u.1), .int (nI k), .int (nI u.2), .int (nI w)], [], MW (upA A 36 (plA n r many (A 36))) B F sw, 0, 0)) 1 rfl ?_
            refine wp_ite (fun _ => ?_) (fun h9 => absurd (bI_f hb) h9)
            refine wp_go (f' := (155, [.ref 28, .int (nI many), .int (nI width), .int (bI u.1), .int (nI k), .int (nI u.2), .int ((nI w) + 1)], [], MW (upA A 36 (plA n r many (A 36))) B F sw, 0, 0)) 1 rfl ?_
            rw [nI_1]
            refine wp_go (f' := (72, [.ref 28, .int (nI many), .int (nI width), .int (bI u.1), .int (nI k), .int (nI u.2), .int (nI (w + 1))], [], MW (upA A 36 (plA n r many (A 36))) B F sw, 0, 0)) 1 rfl ?_
            exact ih2 (by omega)
          | true =>
            by_cases hp0 : plN r many w = 0
            · have e1 : bdW n nb r many width k w u = (u.1, u.2 + 1) := by unfold bdW; rw [if_pos hb, if_pos hp0]
              rw [e1] at ih2
              refine wp_go (f' := (78, [.ref 28, .int (nI many), .int (nI width), .int (bI u.1), .int (nI k), .int (nI u.2), .int (nI w)], [.int (F 6), .int (nI w)], MW (upA A 36 (plA n r many (A 36))) B F sw, 0, 0)) 3 rfl ?_
              rw [hM.2.1]
              refine wp_go (f' := ((if (nI n) ≤ (nI w) then 158 else 81), [.ref 28, .int (nI many), .int (nI width), .int (bI u.1), .int (nI k), .int (nI u.2), .int (nI w)], [], MW (upA A 36 (plA n r many (A 36))) B F sw, 0, 0)) 1 rfl ?_
              refine wp_ite (fun h9 => absurd h9 (nI_ge hw (by omega))) (fun _ => ?_)
              refine wp_go (f' := (88, [.ref 28, .int (nI many), .int (nI width), .int (bI u.1), .int (nI k), .int (nI u.2), .int (nI w)], [.int (nI k), .ref 32, .ref 28], MW (upA A 36 (plA n r many (A 36))) B F sw, 0, 0)) 4 rfl ?_
              refine wp_iald rfl rfl (by omega) (by decide) ?_
              refine wp_eq (f' := (89, [.ref 28, .int (nI many), .int (nI width), .int (bI u.1), .int (nI k), .int (nI u.2), .int (nI w)], [.int ((A 32) k), .ref 28], MW (upA A 36 (plA n r many (A 36))) B F sw, 0, 0)) rfl ?_
              rw [(hr k (by omega)).1]
              have hrk := (hr k (by omega)).2
              refine wp_go (f' := (91, [.ref 28, .int (nI many), .int (nI width), .int (bI u.1), .int (nI k), .int (nI u.2), .int (nI w)], [.int (nI w), .int (nI (r k)), .ref 28], MW (upA A 36 (plA n r many (A 36))) B F sw, 0, 0)) 1 rfl ?_
              refine wp_call rfl rfl rfl (ev_up (ev_isEdge (A := upA A 36 (plA n r many (A 36))) hM (r k) w (by omega) (by omega)) (by decide)) ?_
              refine wp_eq (f' := (94, [.ref 28, .int (nI many), .int (nI width), .int (bI u.1), .int (nI k), .int (nI u.2), .int (nI w)], [.int (bI ((nb (r k)).testBit w))], MW (upA A 36 (plA n r many (A 36))) B F sw, 0, 0)) rfl ?_
              refine wp_go (f' := ((if (bI ((nb (r k)).testBit w)) = 0 then 152 else 97), [.ref 28, .int (nI many), .int (nI width), .int (bI u.1), .int (nI k), .int (nI u.2), .int (nI w)], [], MW (upA A 36 (plA n r many (A 36))) B F sw, 0, 0)) 1 rfl ?_
              refine wp_ite (fun h9 => absurd h9 (by rw [hb]; decide)) (fun _ => ?_)
              refine wp_go (f' := (103, [.ref 28, .int (nI many), .int (nI width), .int (bI u.1), .int (nI k), .int (nI u.2), .int (nI w)], [.int (nI w), .ref 36], MW (upA A 36 (plA n r many (A 36))) B F sw, 0, 0)) 3 rfl ?_
              refine wp_iald rfl rfl (by omega) (by decide) ?_
              refine wp_eq (f' := (104, [.ref 28, .int (nI many), .int (nI width), .int (bI u.1), .int (nI k), .int (nI u.2), .int (nI w)], [.int ((plA n r many (A 36)) w)], MW (upA A 36 (plA n r many (A 36))) B F sw, 0, 0)) rfl ?_
              rw [pl_at (by omega)]
              refine wp_go (f' := ((if ¬ (nI (plN r many w) + (-1)) = (-1) then 114 else 108), [.ref 28, .int (nI many), .int (nI width), .int (bI u.1), .int (nI k), .int (nI u.2), .int (nI w)], [], MW (upA A 36 (plA n r many (A 36))) B F sw, 0, 0)) 2 rfl ?_
              refine wp_ite (fun h9 => absurd h9 (fun h8 => h8 ((m1_ne (by omega)).mpr hp0))) (fun _ => ?_)
              refine wp_go (f' := (111, [.ref 28, .int (nI many), .int (nI width), .int (bI u.1), .int (nI k), .int ((nI u.2) + 1), .int (nI w)], [], MW (upA A 36 (plA n r many (A 36))) B F sw, 0, 0)) 1 rfl ?_
              rw [nI_1]
              refine wp_go (f' := (155, [.ref 28, .int (nI many), .int (nI width), .int (bI u.1), .int (nI k), .int (nI (u.2 + 1)), .int ((nI w) + 1)], [], MW (upA A 36 (plA n r many (A 36))) B F sw, 0, 0)) 2 rfl ?_
              rw [nI_1]
              refine wp_go (f' := (72, [.ref 28, .int (nI many), .int (nI width), .int (bI u.1), .int (nI k), .int (nI (u.2 + 1)), .int (nI (w + 1))], [], MW (upA A 36 (plA n r many (A 36))) B F sw, 0, 0)) 1 rfl ?_
              exact ih2 (by show u.2 + 1 ≤ w + 1; omega)
            · skip
              refine wp_go (f' := (78, [.ref 28, .int (nI many), .int (nI width), .int (bI u.1), .int (nI k), .int (nI u.2), .int (nI w)], [.int (F 6), .int (nI w)], MW (upA A 36 (plA n r many (A 36))) B F sw, 0, 0)) 3 rfl ?_
              rw [hM.2.1]
              refine wp_go (f' := ((if (nI n) ≤ (nI w) then 158 else 81), [.ref 28, .int (nI many), .int (nI width), .int (bI u.1), .int (nI k), .int (nI u.2), .int (nI w)], [], MW (upA A 36 (plA n r many (A 36))) B F sw, 0, 0)) 1 rfl ?_
              refine wp_ite (fun h9 => absurd h9 (nI_ge hw (by omega))) (fun _ => ?_)
              refine wp_go (f' := (88, [.ref 28, .int (nI many), .int (nI width), .int (bI u.1), .int (nI k), .int (nI u.2), .int (nI w)], [.int (nI k), .ref 32, .ref 28], MW (upA A 36 (plA n r many (A 36))) B F sw, 0, 0)) 4 rfl ?_
              refine wp_iald rfl rfl (by omega) (by decide) ?_
              refine wp_eq (f' := (89, [.ref 28, .int (nI many), .int (nI width), .int (bI u.1), .int (nI k), .int (nI u.2), .int (nI w)], [.int ((A 32) k), .ref 28], MW (upA A 36 (plA n r many (A 36))) B F sw, 0, 0)) rfl ?_
              rw [(hr k (by omega)).1]
              have hrk := (hr k (by omega)).2
              refine wp_go (f' := (91, [.ref 28, .int (nI many), .int (nI width), .int (bI u.1), .int (nI k), .int (nI u.2), .int (nI w)], [.int (nI w), .int (nI (r k)), .ref 28], MW (upA A 36 (plA n r many (A 36))) B F sw, 0, 0)) 1 rfl ?_
              refine wp_call rfl rfl rfl (ev_up (ev_isEdge (A := upA A 36 (plA n r many (A 36))) hM (r k) w (by omega) (by omega)) (by decide)) ?_
              refine wp_eq (f' := (94, [.ref 28, .int (nI many), .int (nI width), .int (bI u.1), .int (nI k), .int (nI u.2), .int (nI w)], [.int (bI ((nb (r k)).testBit w))], MW (upA A 36 (plA n r many (A 36))) B F sw, 0, 0)) rfl ?_
              refine wp_go (f' := ((if (bI ((nb (r k)).testBit w)) = 0 then 152 else 97), [.ref 28, .int (nI many), .int (nI width), .int (bI u.1), .int (nI k), .int (nI u.2), .int (nI w)], [], MW (upA A 36 (plA n r many (A 36))) B F sw, 0, 0)) 1 rfl ?_
              refine wp_ite (fun h9 => absurd h9 (by rw [hb]; decide)) (fun _ => ?_)
              refine wp_go (f' := (103, [.ref 28, .int (nI many), .int (nI width), .int (bI u.1), .int (nI k), .int (nI u.2), .int (nI w)], [.int (nI w), .ref 36], MW (upA A 36 (plA n r many (A 36))) B F sw, 0, 0)) 3 rfl ?_
              refine wp_iald rfl rfl (by omega) (by decide) ?_
              refine wp_eq (f' := (104, [.ref 28, .int (nI many), .int (nI width), .int (bI u.1), .int (nI k), .int (nI u.2), .int (nI w)], [.int ((plA n r many (A 36)) w)], MW (upA A 36 (plA n r many (A 36))) B F sw, 0, 0)) rfl ?_
              rw [pl_at1 (by omega) hp0]
              refine wp_go (f' := ((if ¬ (nI (plN r many w - 1)) = (-1) then 114 else 108), [.ref 28, .int (nI many), .int (nI width), .int (bI u.1), .int (nI k), .int (nI u.2), .int (nI w)], [], MW (upA A 36 (plA n r many (A 36))) B F sw, 0, 0)) 2 rfl ?_
              refine wp_ite (fun _ => ?_) (fun h9 => absurd (nI_n1 (by omega)) h9)
              refine wp_go (f' := ((if (bI u.1) = 0 then 150 else 118), [.ref 28, .int (nI many), .int (nI width), .int (bI u.1), .int (nI k), .int (nI u.2), .int (nI w)], [], MW (upA A 36 (plA n r many (A 36))) B F sw, 0, 0)) 2 rfl ?_
              refine wp_ite (fun h1 => ?_) (fun h1 => ?_)
              · have h1 := bI_0.mp h1
                refine wp_go (f' := (155, [.ref 28, .int (nI many), .int (nI width), .int (nI 0), .int (nI k), .int (nI u.2), .int ((nI w) + 1)], [], MW (upA A 36 (plA n r many (A 36))) B F sw, 0, 0)) 3 rfl ?_
                rw [nI_1]
                refine wp_go (f' := (72, [.ref 28, .int (nI many), .int (nI width), .int (nI 0), .int (nI k), .int (nI u.2), .int (nI (w + 1))], [], MW (upA A 36 (plA n r many (A 36))) B F sw, 0, 0)) 1 rfl ?_
                have e1 : bdW n nb r many width k w u = (false, u.2) := by unfold bdW; rw [if_pos hb, if_neg hp0]; rw [h1]; rfl
                rw [e1] at ih2
                exact ih2 (by show u.2 ≤ w + 1; omega)
              · have h1 := bI_n0 h1
                refine wp_go (f' := (124, [.ref 28, .int (nI many), .int (nI width), .int (bI u.1), .int (nI k), .int (nI u.2), .int (nI w)], [.int (nI w), .ref 36], MW (upA A 36 (plA n r many (A 36))) B F sw, 0, 0)) 3 rfl ?_
                refine wp_iald rfl rfl (by omega) (by decide) ?_
                refine wp_eq (f' := (125, [.ref 28, .int (nI many), .int (nI width), .int (bI u.1), .int (nI k), .int (nI u.2), .int (nI w)], [.int ((plA n r many (A 36)) w)], MW (upA A 36 (plA n r many (A 36))) B F sw, 0, 0)) rfl ?_
                rw [pl_at1 (by omega) hp0]
                refine wp_go (f' := ((if (nI width) < ((nI (plN r many w - 1)) - (nI k)) then 150 else 132), [.ref 28, .int (nI many), .int (nI width), .int (bI u.1), .int (nI k), .int (nI u.2), .int (nI w)], [], MW (upA A 36 (plA n r many (A 36))) B F sw, 0, 0)) 4 rfl ?_
                refine wp_ite (fun h2 => ?_) (fun h2 => ?_)
                · have h2 : width + k < plN r many w - 1 := (i32_sub_lt (a := plN r many w - 1) (b := k) (c := width) (by omega) (by omega) (by omega)).mp h2
                  refine wp_go (f' := (155, [.ref 28, .int (nI many), .int (nI width), .int (nI 0), .int (nI k), .int (nI u.2), .int ((nI w) + 1)], [], MW (upA A 36 (plA n r many (A 36))) B F sw, 0, 0)) 3 rfl ?_
                  rw [nI_1]
                  refine wp_go (f' := (72, [.ref 28, .int (nI many), .int (nI width), .int (nI 0), .int (nI k), .int (nI u.2), .int (nI (w + 1))], [], MW (upA A 36 (plA n r many (A 36))) B F sw, 0, 0)) 1 rfl ?_
                  have e1 : bdW n nb r many width k w u = (false, u.2) := by unfold bdW; rw [if_pos hb, if_neg hp0]; rw [h1, decide_eq_false (by omega)]; rfl
                  rw [e1] at ih2
                  exact ih2 (by show u.2 ≤ w + 1; omega)
                · have h2 : ¬ (width + k < plN r many w - 1) := fun h9 => h2 ((i32_sub_lt (a := plN r many w - 1) (b := k) (c := width) (by omega) (by omega) (by omega)).mpr h9)
                  refine wp_go (f' := (140, [.ref 28, .int (nI many), .int (nI width), .int (bI u.1), .int (nI k), .int (nI u.2), .int (nI w)], [.int (nI w), .ref 36, .int (nI k)], MW (upA A 36 (plA n r many (A 36))) B F sw, 0, 0)) 4 rfl ?_
                  refine wp_iald rfl rfl (by omega) (by decide) ?_
                  refine wp_eq (f' := (141, [.ref 28, .int (nI many), .int (nI width), .int (bI u.1), .int (nI k), .int (nI u.2), .int (nI w)], [.int ((plA n r many (A 36)) w), .int (nI k)], MW (upA A 36 (plA n r many (A 36))) B F sw, 0, 0)) rfl ?_
                  rw [pl_at1 (by omega) hp0]
                  refine wp_go (f' := ((if (nI width) < ((nI k) - (nI (plN r many w - 1))) then 150 else 146), [.ref 28, .int (nI many), .int (nI width), .int (bI u.1), .int (nI k), .int (nI u.2), .int (nI w)], [], MW (upA A 36 (plA n r many (A 36))) B F sw, 0, 0)) 3 rfl ?_
                  refine wp_ite (fun h3 => ?_) (fun h3 => ?_)
                  · have h3 : width + (plN r many w - 1) < k := (i32_sub_lt (a := k) (b := plN r many w - 1) (c := width) (by omega) (by omega) (by omega)).mp h3
                    refine wp_go (f' := (155, [.ref 28, .int (nI many), .int (nI width), .int (nI 0), .int (nI k), .int (nI u.2), .int ((nI w) + 1)], [], MW (upA A 36 (plA n r many (A 36))) B F sw, 0, 0)) 3 rfl ?_
                    rw [nI_1]
                    refine wp_go (f' := (72, [.ref 28, .int (nI many), .int (nI width), .int (nI 0), .int (nI k), .int (nI u.2), .int (nI (w + 1))], [], MW (upA A 36 (plA n r many (A 36))) B F sw, 0, 0)) 1 rfl ?_
                    have e1 : bdW n nb r many width k w u = (false, u.2) := by unfold bdW; rw [if_pos hb, if_neg hp0]; rw [h1, decide_eq_true (by omega), decide_eq_false (by omega)]; rfl
                    rw [e1] at ih2
                    exact ih2 (by show u.2 ≤ w + 1; omega)
                  · have h3 : ¬ (width + (plN r many w - 1) < k) := fun h9 => h3 ((i32_sub_lt (a := k) (b := plN r many w - 1) (c := width) (by omega) (by omega) (by omega)).mpr h9)
                    refine wp_go (f' := (155, [.ref 28, .int (nI many), .int (nI width), .int (nI 1), .int (nI k), .int (nI u.2), .int ((nI w) + 1)], [], MW (upA A 36 (plA n r many (A 36))) B F sw, 0, 0)) 4 rfl ?_
                    rw [nI_1]
                    refine wp_go (f' := (72, [.ref 28, .int (nI many), .int (nI width), .int (nI 1), .int (nI k), .int (nI u.2), .int (nI (w + 1))], [], MW (upA A 36 (plA n r many (A 36))) B F sw, 0, 0)) 1 rfl ?_
                    have e1 : bdW n nb r many width k w u = (true, u.2) := by unfold bdW; rw [if_pos hb, if_neg hp0]; rw [h1, decide_eq_true (by omega), decide_eq_true (by omega)]; rfl
                    rw [e1] at ih2
                    exact ih2 (by show u.2 ≤ w + 1; omega)
        · intro hu
          have hql := bdW_le (n := n) (nb := nb) (r := r) (many := many) (width := width) (k := k) (b := b) n
          refine wp_go (f' := (78, [.ref 28, .int (nI many), .int (nI width), .int (bI (forN (bdW n nb r many width k) n (b, 0)).1), .int (nI k), .int (nI ((forN (bdW n nb r many width k) n (b, 0)).2)), .int (nI n)], [.int (F 6), .int (nI n)], MW (upA A 36 (plA n r many (A 36))) B F sw, 0, 0)) 3 rfl ?_
          rw [hM.2.1]
          refine wp_go (f' := ((if (nI n) ≤ (nI n) then 158 else 81), [.ref 28, .int (nI many), .int (nI width), .int (bI (forN (bdW n nb r many width k) n (b, 0)).1), .int (nI k), .int (nI ((forN (bdW n nb r many width k) n (b, 0)).2)), .int (nI n)], [], MW (upA A 36 (plA n r many (A 36))) B F sw, 0, 0)) 1 rfl ?_
          refine wp_ite (fun _ => ?_) (fun h9 => absurd (nI_le (Nat.le_refl _) (by omega)) h9)
          refine wp_go (f' := ((if (bI (forN (bdW n nb r many width k) n (b, 0)).1) = 0 then 184 else 162), [.ref 28, .int (nI many), .int (nI width), .int (bI (forN (bdW n nb r many width k) n (b, 0)).1), .int (nI k), .int (nI ((forN (bdW n nb r many width k) n (b, 0)).2)), .int (nI n)], [], MW (upA A 36 (plA n r many (A 36))) B F sw, 0, 0)) 2 rfl ?_
          refine wp_ite (fun h1 => ?_) (fun h1 => ?_)
          · have h1 := bI_0.mp h1
            refine wp_go (f' := (189, [.ref 28, .int (nI many), .int (nI width), .int (nI 0), .int ((nI k) + 1), .int (nI ((forN (bdW n nb r many width k) n (b, 0)).2)), .int (nI n)], [], MW (upA A 36 (plA n r many (A 36))) B F sw, 0, 0)) 3 rfl ?_
            rw [nI_1]
            refine wp_go (f' := (60, [.ref 28, .int (nI many), .int (nI width), .int (nI 0), .int (nI (k + 1)), .int (nI ((forN (bdW n nb r many width k) n (b, 0)).2)), .int (nI n)], [], MW (upA A 36 (plA n r many (A 36))) B F sw, 0, 0)) 1 rfl ?_
            have e1 : bdK n nb r many width k b = false := by unfold bdK; rw [h1]; rfl
            rw [e1] at ih
            exact ih _ _
          · have h1 := bI_n0 h1
            refine wp_go (f' := ((if (nI ((forN (bdW n nb r many width k) n (b, 0)).2)) = 0 then 180 else 167), [.ref 28, .int (nI many), .int (nI width), .int (bI (forN (bdW n nb r many width k) n (b, 0)).1), .int (nI k), .int (nI ((forN (bdW n nb r many width k) n (b, 0)).2)), .int (nI n)], [], MW (upA A 36 (plA n r many (A 36))) B F sw, 0, 0)) 2 rfl ?_
            refine wp_ite (fun h2 => ?_) (fun h2 => ?_)
            · have h2 : (forN (bdW n nb r many width k) n (b, 0)).2 = 0 := (nI_eq (a := (forN (bdW n nb r many width k) n (b, 0)).2) (b := 0) (by omega) (by omega)).mp h2
              refine wp_go (f' := (189, [.ref 28, .int (nI many), .int (nI width), .int (nI 1), .int ((nI k) + 1), .int (nI ((forN (bdW n nb r many width k) n (b, 0)).2)), .int (nI n)], [], MW (upA A 36 (plA n r many (A 36))) B F sw, 0, 0)) 4 rfl ?_
              rw [nI_1]
              refine wp_go (f' := (60, [.ref 28, .int (nI many), .int (nI width), .int (nI 1), .int (nI (k + 1)), .int (nI ((forN (bdW n nb r many width k) n (b, 0)).2)), .int (nI n)], [], MW (upA A 36 (plA n r many (A 36))) B F sw, 0, 0)) 1 rfl ?_
              have e1 : bdK n nb r many width k b = true := by unfold bdK; rw [h1, decide_eq_true h2]; rfl
              rw [e1] at ih
              exact ih _ _
            · have h2 : ¬ ((forN (bdW n nb r many width k) n (b, 0)).2 = 0) := fun h9 => h2 ((nI_eq (a := (forN (bdW n nb r many width k) n (b, 0)).2) (b := 0) (by omega) (by omega)).mpr h9)
              refine wp_go (f' := (171, [.ref 28, .int (nI many), .int (nI width), .int (bI (forN (bdW n nb r many width k) n (b, 0)).1), .int (nI k), .int (nI ((forN (bdW n nb r many width k) n (b, 0)).2)), .int (nI n)], [.int ((nI many) + (nI ((forN (bdW n nb r many width k) n (b, 0)).2)))], MW (upA A 36 (plA n r many (A 36))) B F sw, 0, 0)) 3 rfl ?_
              rw [nI_add]
              refine wp_go (f' := (173, [.ref 28, .int (nI many), .int (nI width), .int (bI (forN (bdW n nb r many width k) n (b, 0)).1), .int (nI k), .int (nI ((forN (bdW n nb r many width k) n (b, 0)).2)), .int (nI n)], [.int ((nI (many + ((forN (bdW n nb r many width k) n (b, 0)).2))) - (nI 1))], MW (upA A 36 (plA n r many (A 36))) B F sw, 0, 0)) 2 rfl ?_
              rw [pk_sub (by omega)]
              refine wp_go (f' := (176, [.ref 28, .int (nI many), .int (nI width), .int (bI (forN (bdW n nb r many width k) n (b, 0)).1), .int (nI k), .int (nI ((forN (bdW n nb r many width k) n (b, 0)).2)), .int (nI n)], [.int ((nI ((many + ((forN (bdW n nb r many width k) n (b, 0)).2)) - 1)) - (nI k))], MW (upA A 36 (plA n r many (A 36))) B F sw, 0, 0)) 2 rfl ?_
              rw [pk_sub (by omega)]
              refine wp_go (f' := ((if (nI width) < (nI (((many + ((forN (bdW n nb r many width k) n (b, 0)).2)) - 1) - k)) then 184 else 180), [.ref 28, .int (nI many), .int (nI width), .int (bI (forN (bdW n nb r many width k) n (b, 0)).1), .int (nI k), .int (nI ((forN (bdW n nb r many width k) n (b, 0)).2)), .int (nI n)], [], MW (upA A 36 (plA n r many (A 36))) B F sw, 0, 0)) 2 rfl ?_
              refine wp_ite (fun h3 => ?_) (fun h3 => ?_)
              · have h3 : width < ((many + ((forN (bdW n nb r many width k) n (b, 0)).2)) - 1) - k := (nI_ltI (a := width) (b := ((many + ((forN (bdW n nb r many width k) n (b, 0)).2)) - 1) - k) (by omega) (by omega)).mp h3
                refine wp_go (f' := (189, [.ref 28, .int (nI many), .int (nI width), .int (nI 0), .int ((nI k) + 1), .int (nI ((forN (bdW n nb r many width k) n (b, 0)).2)), .int (nI n)], [], MW (upA A 36 (plA n r many (A 36))) B F sw, 0, 0)) 3 rfl ?_
                rw [nI_1]
                refine wp_go (f' := (60, [.ref 28, .int (nI many), .int (nI width), .int (nI 0), .int (nI (k + 1)), .int (nI ((forN (bdW n nb r many width k) n (b, 0)).2)), .int (nI n)], [], MW (upA A 36 (plA n r many (A 36))) B F sw, 0, 0)) 1 rfl ?_
                have e1 : bdK n nb r many width k b = false := by unfold bdK; rw [h1, decide_eq_false h2, decide_eq_false (by omega)]; rfl
                rw [e1] at ih
                exact ih _ _
              · have h3 : ¬ (width < ((many + ((forN (bdW n nb r many width k) n (b, 0)).2)) - 1) - k) := fun h9 => h3 ((nI_ltI (a := width) (b := ((many + ((forN (bdW n nb r many width k) n (b, 0)).2)) - 1) - k) (by omega) (by omega)).mpr h9)
                refine wp_go (f' := (189, [.ref 28, .int (nI many), .int (nI width), .int (nI 1), .int ((nI k) + 1), .int (nI ((forN (bdW n nb r many width k) n (b, 0)).2)), .int (nI n)], [], MW (upA A 36 (plA n r many (A 36))) B F sw, 0, 0)) 4 rfl ?_
                rw [nI_1]
                refine wp_go (f' := (60, [.ref 28, .int (nI many), .int (nI width), .int (nI 1), .int (nI (k + 1)), .int (nI ((forN (bdW n nb r many width k) n (b, 0)).2)), .int (nI n)], [], MW (upA A 36 (plA n r many (A 36))) B F sw, 0, 0)) 1 rfl ?_
                have e1 : bdK n nb r many width k b = true := by unfold bdK; rw [h1, decide_eq_false h2, decide_eq_true (by omega)]; rfl
                rw [e1] at ih
                exact ih _ _
      · intro e5 e6
        refine wp_go (f' := ((if (nI many) ≤ (nI many) then 192 else 66), [.ref 28, .int (nI many), .int (nI width), .int (bI (isBN n nb r many width)), .int (nI many), e5, e6], [], MW (upA A 36 (plA n r many (A 36))) B F sw, 0, 0)) 3 rfl ?_
        refine wp_ite (fun _ => ?_) (fun h9 => absurd (nI_le (Nat.le_refl _) (by omega)) h9)
        refine wp_go (f' := (193, [.ref 28, .int (nI many), .int (nI width), .int (bI (isBN n nb r many width)), .int (nI many), e5, e6], [.int (bI (isBN n nb r many width))], MW (upA A 36 (plA n r many (A 36))) B F sw, 0, 0)) 1 rfl ?_
        exact wp_zret rfl (bI_01 _)
end MM
