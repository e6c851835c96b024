/-- what is due of those in the first j places -/
def dueN (nb r : Nat → Nat) (s j : Nat) : Nat := forN (fun i d => d ||| sd (nb (r i)) s) j 0
def roomF (nb r : Nat → Nat) (k s w j : Nat) : Bool := forN (fun i b => b && decide (pop (dueN nb r s (i + 1)) ≤ i + w - k)) j true
/-- the class's hasRoom -/
def roomN (nb r : Nat → Nat) (k s w : Nat) : Bool := roomF nb r k s w (k + 1)
theorem allF_f {p : Nat → Bool} {k : Nat} (h : p k = false) : ∀ j, k < j → forN (fun i b => b && p i) j true = false
  | 0, hk => by omega
  | j + 1, hk => by
    simp only [forN]
    by_cases e : k = j
    · subst e; rw [h]; simp
    · rw [allF_f h j (by omega)]; rfl
theorem due_lt {nb r : Nat → Nat} {s j : Nat} (hb : ∀ v, v < 10 → nb v < 1024) (hr : ∀ i, i < j → r i < 10) : dueN nb r s j < 1024 := by
  refine forN_inv (I := fun _ (d : Nat) => d < 1024) (by omega) (fun k m hk hm => or_lt hm (sd_lt (hb _ (hr k (by omega))))) j (Nat.le_refl _)
theorem max_0 {a b : Nat} (ha : a < 2 ^ 30) (hb : b < 2 ^ 30) : (if nI 0 < nI a - nI b then nI a - nI b else nI 0) = nI (a - b) := by
  by_cases h : b ≤ a
  · rw [pk_sub h]
    by_cases e : a - b = 0
    · rw [e, if_neg (by decide)]
    · rw [if_pos ((nI_ltI (by omega) (by omega)).mpr (by omega))]
  · have h1 : (nI a - nI b) = -(nI (b - a)) := by
      rw [← pk_sub (by omega : a ≤ b), Int32.neg_sub]
    have h2 : ¬ nI 0 < nI a - nI b := by
      rw [h1, Int32.lt_iff_toInt_lt, nI_toInt (by omega), Int32.toInt_neg, nI_toInt (by omega)]
      rw [Int.bmod_def]
      omega
    rw [if_neg h2, show a - b = 0 by omega]
/-- a row with one place changed -/
def upN (r : Nat → Nat) (k v : Nat) : Nat → Nat := fun j => if j = k then v else r j
theorem rowT_up {r : Nat → Nat} {k v : Nat} {g : Nat → Int32} (hk : k < 10) : upd (rowT r 10 g) k (nI v) = rowT (upN r k v) 10 g := by
  funext j
  unfold upd rowT upN
  by_cases h : j = k
  · subst h; simp [hk]
  · simp [h]
theorem upN_lt {r : Nat → Nat} {k v : Nat} (hr : ∀ j, j < 10 → r j < 10) (hv : v < 10) : ∀ j, j < 10 → upN r k v j < 10 := by
  intro j hj
  unfold upN
  split
  · exact hv
  · exact hr j hj
/-- the class's way back and forth: vertices from v on at place k -/
def bandV (ok : Nat → Bool) (room : (Nat → Nat) → Nat → Bool) (rc : Nat → (Nat → Nat) → Bool × (Nat → Nat)) (k : Nat) : Nat → Nat → (Nat → Nat) → Bool × (Nat → Nat)
  | 0, _, r => (false, r)
  | m + 1, v, r => if ok v = true then (if room (upN r k v) v = true then (if (rc v (upN r k v)).1 = true then (true, (rc v (upN r k v)).2) else bandV ok room rc k m (v + 1) (rc v (upN r k v)).2) else bandV ok room rc k m (v + 1) (upN r k v)) else bandV ok room rc k m (v + 1) r
/-- whether v may stand behind s within w -/
def bokN (n : Nat) (nb : Nat → Nat) (ed w s v : Nat) : Bool := !(s.testBit v) && decide (comb 2 (ownC n nb ed 2 s v) (bgN (ownC n nb ed 2) n 2 (s ||| 2 ^ v)) ≤ w)
def bandF (n : Nat) (nb : Nat → Nat) (ed w : Nat) : Nat → Nat → Nat → (Nat → Nat) → Bool × (Nat → Nat)
  | 0, _, _, r => (true, r)
  | f + 1, k, s, r => bandV (bokN n nb ed w s) (fun r v => roomN nb r k (s ||| 2 ^ v) w) (fun v r => bandF n nb ed w f (k + 1) (s ||| 2 ^ v) r) k n 0 r
theorem bandV_lt {ok : Nat → Bool} {room : (Nat → Nat) → Nat → Bool} {rc : Nat → (Nat → Nat) → Bool × (Nat → Nat)} {k : Nat} (hrc : ∀ v r, (∀ j, j < 10 → r j < 10) → ∀ j, j < 10 → (rc v r).2 j < 10) : ∀ m v r, v + m ≤ 10 → (∀ j, j < 10 → r j < 10) → ∀ j, j < 10 → (bandV ok room rc k m v r).2 j < 10
  | 0, v, r, hv, hr => hr
  | m + 1, v, r, hv, hr => by
    have h1 := upN_lt (k := k) (v := v) hr (by omega)
    have h2 := hrc v _ h1
    unfold bandV
    split
    · split
      · split
        · exact h2
        · exact bandV_lt hrc m (v + 1) _ (by omega) h2
      · exact bandV_lt hrc m (v + 1) _ (by omega) h1
    · exact bandV_lt hrc m (v + 1) _ (by omega) hr
theorem bandF_lt {n : Nat} {nb : Nat → Nat} {ed w : Nat} (hn : n ≤ 10) : ∀ f k s r, (∀ j, j < 10 → r j < 10) → ∀ j, j < 10 → (bandF n nb ed w f k s r).2 j < 10
  | 0, k, s, r, hr => hr
  | f + 1, k, s, r, hr => bandV_lt (fun v r hr => bandF_lt hn f _ _ r hr) n 0 r (by omega) hr
/-- the class's band: the least w from w0 on for which a row is found -/
def bandW (n : Nat) (nb : Nat → Nat) (ed : Nat) : Nat → Nat → (Nat → Nat) → Nat × (Nat → Nat)
  | 0, w, r => (w, r)
  | f + 1, w, r => if w < n then (if (bandF n nb ed w n 0 0 r).1 = true then (w, (bandF n nb ed w n 0 0 r).2) else bandW n nb ed f (w + 1) (bandF n nb ed w n 0 0 r).2) else (w, r)
theorem comb_le {n : Nat} {nb : Nat → Nat} {ed s v : Nat} (hn : n ≤ 10) (hb : ∀ v, v < 10 → nb v < 1024) (hQ : CEd n nb ed) (hs : s < 2 ^ n) (hv : v < n) : comb 2 (ownC n nb ed 2 s v) (bgN (ownC n nb ed 2) n 2 (s ||| 2 ^ v)) ≤ 1000 := by
  have hol := ownC_le (kind := 2) hn hb hQ hs hv (by omega)
  have hbl := bgN_le (c := ownC n nb ed 2) (kind := 2) (or_ltn hs hv)
  unfold comb
  (repeat' split) <;> omega
section CC
variable {xs : Nat → Int32} {Ls : Nat} {A : Nat → Nat → Int32} {B : Nat → Nat → Int64} {F : Nat → Int32} {sw : Bool} {n : Nat} {nb : Nat → Nat}
theorem ev_hasRoom (hC : CI A F n nb) {r : Nat → Nat} {k s w : Nat} (hk : k < 10) (hs : s < 1024) (hw : w ≤ 1000) (hr : ∀ j, j < 10 → A 11 j = nI (r j) ∧ r j < 10) : mv_Ev xs Ls 2 45 [.ref 7, .ref 11, .int (nI k), .int (nI s), .int (nI w)] (MW A B F sw) (some (.int (bI (roomN nb r k s w))), MW A B F sw, 0, 0) := by
  refine ev_of_wp rfl rfl rfl ?_
  have hn := hC.1
  have hp := pow10 hn
  have hp1 : 1 ≤ 2 ^ n := Nat.one_le_two_pow
  have hal := all_lt hn
  refine wp_go (f' := (6, [.ref 7, .ref 11, .int (nI k), .int (nI s), .int (nI w), .int (nI 0), .int (nI 0)], [], MW A B F sw, 0, 0)) 4 rfl ?_
  refine for_ind (P := fun (i : Nat) (_ : Unit) => roomF nb r k s w i = true → mv_Wp xs Ls 1 4 false (some .boolean) mv_c45 (6, [.ref 7, .ref 11, .int (nI k), .int (nI s), .int (nI w), .int (nI (dueN nb r s i)), .int (nI i)], [], MW A B F sw, 0, 0) (some (.int (bI (roomN nb r k s w))), MW A B F sw, 0, 0)) (f := fun _ u => u) (n := k + 1) ?_ (k + 1) () (Nat.le_refl _) ?_ rfl
  · intro i _ hi ih hv
    have hd1 := due_lt (nb := nb) (r := r) (s := s) (j := i + 1) hC.2.2.2 (fun i hi => (hr i (by omega)).2)
    have hd2 : (dueN nb r s i) ||| sd (nb (r i)) s = dueN nb r s (i + 1) := rfl
    refine wp_go (f' := ((if (nI k) < (nI i) then 60 else 12), [.ref 7, .ref 11, .int (nI k), .int (nI s), .int (nI w), .int (nI (dueN nb r s i)), .int (nI i)], [], MW A B F sw, 0, 0)) 3 rfl ?_
    refine wp_ite (fun h9 => absurd h9 (nI_nlt (by omega) (by omega))) (fun _ => ?_)
    refine wp_go (f' := (24, [.ref 7, .ref 11, .int (nI k), .int (nI s), .int (nI w), .int (nI (dueN nb r s i)), .int (nI i)], [.int (nI i), .ref 11, .ref 2, .int (nI (dueN nb r s i))], MW A B F sw, 0, 0)) 6 rfl ?_
    refine wp_iald rfl rfl (by omega) (by decide) ?_
    rw [(hr i (by omega)).1]
    have hri := (hr i (by omega)).2
    refine wp_iald rfl rfl (by omega) (by decide) ?_
    rw [hC.2.2.1 (r i) (by omega)]
    have hnb := hC.2.2.2 (r i) (by omega)
    refine wp_go (f' := (30, [.ref 7, .ref 11, .int (nI k), .int (nI s), .int (nI w), .int (nI (dueN nb r s i)), .int (nI i)], [.int ((nI (nb (r i))) &&& ((nI s) ^^^ (-1))), .int (nI (dueN nb r s i))], MW A B F sw, 0, 0)) 4 rfl ?_
    rw [bx_sd (by omega)]
    refine wp_go (f' := (31, [.ref 7, .ref 11, .int (nI k), .int (nI s), .int (nI w), .int (nI (dueN nb r s i)), .int (nI i)], [.int ((nI (dueN nb r s i)) ||| (nI (sd (nb (r i)) s)))], MW A B F sw, 0, 0)) 1 rfl ?_
    rw [bx_or]
    rw [hd2]
    refine wp_go (f' := (35, [.ref 7, .ref 11, .int (nI k), .int (nI s), .int (nI w), .int (nI (dueN nb r s (i + 1))), .int (nI i)], [.int (nI (dueN nb r s (i + 1)))], MW A B F sw, 0, 0)) 2 rfl ?_
    refine wp_call rfl rfl rfl (ev_up (ev_bitCount (s := dueN nb r s (i + 1)) (by omega) _) (by decide)) ?_
    refine wp_eq (f' := (38, [.ref 7, .ref 11, .int (nI k), .int (nI s), .int (nI w), .int (nI (dueN nb r s (i + 1))), .int (nI i)], [.int (nI (pop (dueN nb r s (i + 1))))], MW A B F sw, 0, 0)) rfl ?_
    have hpp := pop_le (s := dueN nb r s (i + 1)) (by omega)
    refine wp_go (f' := (44, [.ref 7, .ref 11, .int (nI k), .int (nI s), .int (nI w), .int (nI (dueN nb r s (i + 1))), .int (nI i)], [.int ((nI i) + (nI w)), .int (nI 0), .int (nI (pop (dueN nb r s (i + 1))))], MW A B F sw, 0, 0)) 4 rfl ?_
    rw [nI_add]
    refine wp_go (f' := (49, [.ref 7, .ref 11, .int (nI k), .int (nI s), .int (nI w), .int (nI (dueN nb r s (i + 1))), .int (nI i)], [.int (if (nI 0) < ((nI (i + w)) - (nI k)) then (nI (i + w)) - (nI k) else nI 0), .int (nI (pop (dueN nb r s (i + 1))))], MW A B F sw, 0, 0)) 3 rfl ?_
    rw [max_0 (by omega) (by omega)]
    refine wp_go (f' := ((if (nI (pop (dueN nb r s (i + 1)))) ≤ (nI ((i + w) - k)) then 54 else 52), [.ref 7, .ref 11, .int (nI k), .int (nI s), .int (nI w), .int (nI (dueN nb r s (i + 1))), .int (nI i)], [], MW A B F sw, 0, 0)) 1 rfl ?_
    refine wp_ite (fun h1 => ?_) (fun h1 => ?_)
    · have h1 : pop (dueN nb r s (i + 1)) ≤ (i + w) - k := (nI_leI (a := pop (dueN nb r s (i + 1))) (b := (i + w) - k) (by omega) (by omega)).mp h1
      refine wp_go (f' := (57, [.ref 7, .ref 11, .int (nI k), .int (nI s), .int (nI w), .int (nI (dueN nb r s (i + 1))), .int ((nI i) + 1)], [], MW A B F sw, 0, 0)) 1 rfl ?_
      rw [nI_1]
      refine wp_go (f' := (6, [.ref 7, .ref 11, .int (nI k), .int (nI s), .int (nI w), .int (nI (dueN nb r s (i + 1))), .int (nI (i + 1))], [], MW A B F sw, 0, 0)) 1 rfl ?_
      exact ih (by show (roomF nb r k s w i && _) = true; rw [hv]; simp; omega)
    · have h1 : ¬ (pop (dueN nb r s (i + 1)) ≤ (i + w) - k) := fun h9 => h1 ((nI_leI (a := pop (dueN nb r s (i + 1))) (b := (i + w) - k) (by omega) (by omega)).mpr h9)
      refine wp_go (f' := (53, [.ref 7, .ref 11, .int (nI k), .int (nI s), .int (nI w), .int (nI (dueN nb r s (i + 1))), .int (nI i)], [.int (nI 0)], MW A B F sw, 0, 0)) 1 rfl ?_
      rw [show roomN nb r k s w = false from allF_f (p := fun i => decide (pop (dueN nb r s (i + 1)) ≤ i + w - k)) (k := i) (decide_eq_false (by omega)) (k + 1) hi]
      exact wp_zret rfl (by first | exact Or.inl rfl | exact Or.inr rfl)
  · intro hv
    refine wp_go (f' := ((if (nI k) < (nI (k + 1)) then 60 else 12), [.ref 7, .ref 11, .int (nI k), .int (nI s), .int (nI w), .int (nI (dueN nb r s (k + 1))), .int (nI (k + 1))], [], MW A B F sw, 0, 0)) 3 rfl ?_
    refine wp_ite (fun _ => ?_) (fun h9 => absurd (nI_lt (by omega) (by omega)) h9)
    refine wp_go (f' := (61, [.ref 7, .ref 11, .int (nI k), .int (nI s), .int (nI w), .int (nI (dueN nb r s (k + 1))), .int (nI (k + 1))], [.int (nI 1)], MW A B F sw, 0, 0)) 1 rfl ?_
    rw [show roomN nb r k s w = true from hv]
    exact wp_zret rfl (by first | exact Or.inl rfl | exact Or.inr rfl)
theorem ev_bandB (hC : CI A F n nb) (hR : RI A n nb) {ed : Nat} (hE : F 1 = nI ed) (hQ : CEd n nb ed) (hT : ∀ j, j < 2 ^ n → A 16 j = nI (bgN (ownC n nb ed 2) n 2 j)) {w : Nat} (hw : w ≤ 1000) : ∀ (f k s : Nat) (r : Nat → Nat), k + f = n → s < 2 ^ n → (∀ j, j < 10 → r j < 10) → mv_Ev xs Ls (5 + f) 44 [.ref 7, .ref 11, .int (nI k), .int (nI s), .int (nI w)] (MW (upA A 11 (rowT r 10 (A 11))) B F sw) (some (.int (bI (bandF n nb ed w f k s r).1)), MW (upA A 11 (rowT (bandF n nb ed w f k s r).2 10 (A 11))) B F sw, 0, 0) := by
  have hn := hC.1
  have hp := pow10 hn
  have hp1 : 1 ≤ 2 ^ n := Nat.one_le_two_pow
  have hal := all_lt hn
  intro f
  induction f with
  | zero =>
    intro k s r hkf hs hr
    refine ev_of_wp rfl rfl rfl ?_
    refine wp_go (f' := (8, [.ref 7, .ref 11, .int (nI k), .int (nI s), .int (nI w), .retAddr 0, .retAddr 0], [.int (F 0), .int (nI k)], MW (upA A 11 (rowT r 10 (A 11))) B F sw, 0, 0)) 4 rfl ?_
    rw [hC.2.1]
    refine wp_go (f' := ((if (nI n) ≤ (nI k) then 17 else 11), [.ref 7, .ref 11, .int (nI k), .int (nI s), .int (nI w), .retAddr 0, .retAddr 0], [], MW (upA A 11 (rowT r 10 (A 11))) B F sw, 0, 0)) 1 rfl ?_
    refine wp_ite (fun _ => ?_) (fun h9 => absurd (nI_le (by omega) (by omega)) h9)
    refine wp_go (f' := (18, [.ref 7, .ref 11, .int (nI k), .int (nI s), .int (nI w), .retAddr 0, .retAddr 0], [.int (nI 1)], MW (upA A 11 (rowT r 10 (A 11))) B F sw, 0, 0)) 1 rfl ?_
    exact wp_zret rfl (by first | exact Or.inl rfl | exact Or.inr rfl)
  | succ f ihf =>
    intro k s r hkf hs hr
    refine ev_of_wp rfl rfl rfl ?_
    refine wp_go (f' := (8, [.ref 7, .ref 11, .int (nI k), .int (nI s), .int (nI w), .retAddr 0, .retAddr 0], [.int (F 0), .int (nI k)], MW (upA A 11 (rowT r 10 (A 11))) B F sw, 0, 0)) 4 rfl ?_
    rw [hC.2.1]
    refine wp_go (f' := ((if (nI n) ≤ (nI k) then 17 else 11), [.ref 7, .ref 11, .int (nI k), .int (nI s), .int (nI w), .retAddr 0, .retAddr 0], [], MW (upA A 11 (rowT r 10 (A 11))) B F sw, 0, 0)) 1 rfl ?_
    refine wp_ite (fun h9 => absurd h9 (nI_ge (by omega) (by omega))) (fun _ => ?_)
    refine wp_go (f' := ((if (nI k) < (nI 10) then 19 else 17), [.ref 7, .ref 11, .int (nI k), .int (nI s), .int (nI w), .retAddr 0, .retAddr 0], [], MW (upA A 11 (rowT r 10 (A 11))) B F sw, 0, 0)) 3 rfl ?_
    refine wp_ite (fun _ => ?_) (fun h9 => absurd (nI_lt (by omega) (by omega)) h9)
    refine wp_go (f' := (22, [.ref 7, .ref 11, .int (nI k), .int (nI s), .int (nI w), .int (nI 0), .retAddr 0], [], MW (upA A 11 (rowT r 10 (A 11))) B F sw, 0, 0)) 2 rfl ?_
    have hgo : ∀ (m v : Nat) (r : Nat → Nat) (d6 : Value), v + m = n → (∀ j, j < 10 → r j < 10) → mv_Wp xs Ls (5 + f) 4 false (some .boolean) mv_c44 (22, [.ref 7, .ref 11, .int (nI k), .int (nI s), .int (nI w), .int (nI v), d6], [], MW (upA A 11 (rowT r 10 (A 11))) B F sw, 0, 0) (some (.int (bI (bandV (bokN n nb ed w s) (fun r v => roomN nb r k (s ||| 2 ^ v) w) (fun v r => bandF n nb ed w f (k + 1) (s ||| 2 ^ v) r) k m v r).1)), MW (upA A 11 (rowT (bandV (bokN n nb ed w s) (fun r v => roomN nb r k (s ||| 2 ^ v) w) (fun v r => bandF n nb ed w f (k + 1) (s ||| 2 ^ v) r) k m v r).2 10 (A 11))) B F sw, 0, 0) := by
      intro m
      induction m with
      | zero =>
        intro v r d6 hvm hr
        refine wp_go (f' := (31, [.ref 7, .ref 11, .int (nI k), .int (nI s), .int (nI w), .int (nI v), d6], [.int (F 0), .int (nI v)], MW (upA A 11 (rowT r 10 (A 11))) B F sw, 0, 0)) 4 rfl ?_
        rw [hC.2.1]
        refine wp_go (f' := ((if (nI n) ≤ (nI v) then 108 else 34), [.ref 7, .ref 11, .int (nI k), .int (nI s), .int (nI w), .int (nI v), d6], [], MW (upA A 11 (rowT r 10 (A 11))) B F sw, 0, 0)) 1 rfl ?_
        refine wp_ite (fun _ => ?_) (fun h9 => absurd (nI_le (by omega) (by omega)) h9)
        refine wp_go (f' := (109, [.ref 7, .ref 11, .int (nI k), .int (nI s), .int (nI w), .int (nI v), d6], [.int (nI 0)], MW (upA A 11 (rowT r 10 (A 11))) B F sw, 0, 0)) 1 rfl ?_
        exact wp_zret rfl (by first | exact Or.inl rfl | exact Or.inr rfl)
      | succ m ihm =>
        intro v r d6 hvm hr
        have hCr : CI (upA A 11 (rowT r 10 (A 11))) F n nb := hC
        have hRr : RI (upA A 11 (rowT r 10 (A 11))) n nb := hR
        have hw9 := or_ltn hs (show v < n by omega)
        have hcl := comb_le hn hC.2.2.2 hQ hs (show v < n by omega)
        have hru := upN_lt (k := k) (v := v) hr (by omega)
        unfold bandV
        refine wp_go (f' := (31, [.ref 7, .ref 11, .int (nI k), .int (nI s), .int (nI w), .int (nI v), d6], [.int (F 0), .int (nI v)], MW (upA A 11 (rowT r 10 (A 11))) B F sw, 0, 0)) 4 rfl ?_
        rw [hC.2.1]
        refine wp_go (f' := ((if (nI n) ≤ (nI v) then 108 else 34), [.ref 7, .ref 11, .int (nI k), .int (nI s), .int (nI w), .int (nI v), d6], [], MW (upA A 11 (rowT r 10 (A 11))) B F sw, 0, 0)) 1 rfl ?_
        refine wp_ite (fun h9 => absurd h9 (nI_ge (by omega) (by omega))) (fun _ => ?_)
        refine wp_go (f' := (40, [.ref 7, .ref 11, .int (nI k), .int (nI s), .int (nI w), .int (nI v), d6], [.int (((nI s) >>> ((nI v) &&& 31)) &&& (nI 1))], MW (upA A 11 (rowT r 10 (A 11))) B F sw, 0, 0)) 5 rfl ?_
        rw [bx_bit (by omega) (by omega)]
        refine wp_go (f' := ((if ¬ (bI (s.testBit v)) = 0 then 102 else 43), [.ref 7, .ref 11, .int (nI k), .int (nI s), .int (nI w), .int (nI v), d6], [], MW (upA A 11 (rowT r 10 (A 11))) B F sw, 0, 0)) 1 rfl ?_
        refine wp_ite (fun h1 => ?_) (fun h1 => ?_)
        · have h1 := bI_n0 h1
          refine wp_go (f' := (105, [.ref 7, .ref 11, .int (nI k), .int (nI s), .int (nI w), .int ((nI v) + 1), d6], [], MW (upA A 11 (rowT r 10 (A 11))) B F sw, 0, 0)) 1 rfl ?_
          rw [nI_1]
          refine wp_go (f' := (22, [.ref 7, .ref 11, .int (nI k), .int (nI s), .int (nI w), .int (nI (v + 1)), d6], [], MW (upA A 11 (rowT r 10 (A 11))) B F sw, 0, 0)) 1 rfl ?_
          have hb0 : bokN n nb ed w s v = false := by unfold bokN; rw [h1]; rfl
          rw [if_neg (by rw [hb0]; exact Bool.false_ne_true)]
          exact ihm (v + 1) r d6 (by omega) hr
        · have h1 := Classical.not_not.mp h1; have h1 := bI_0.mp h1
          refine wp_go (f' := (48, [.ref 7, .ref 11, .int (nI k), .int (nI s), .int (nI w), .int (nI v), d6], [.int (nI v), .int (nI s), .int (nI 2), .ref 7], MW (upA A 11 (rowT r 10 (A 11))) B F sw, 0, 0)) 4 rfl ?_
          refine wp_call rfl rfl rfl (ev_up (ev_costFrom hCr hRr hE hQ (kind := 2) (by omega) (s := s) (v := v) (t := bgN (ownC n nb ed 2) n 2 (s ||| 2 ^ v)) hs (by omega) ⟨hT _ hw9, bgN_le hw9⟩) (by omega)) ?_
          refine wp_eq (f' := (51, [.ref 7, .ref 11, .int (nI k), .int (nI s), .int (nI w), .int (nI v), d6], [.int (nI (comb 2 (ownC n nb ed 2 s v) (bgN (ownC n nb ed 2) n 2 (s ||| 2 ^ v))))], MW (upA A 11 (rowT r 10 (A 11))) B F sw, 0, 0)) rfl ?_
          refine wp_go (f' := ((if (nI (comb 2 (ownC n nb ed 2 s v) (bgN (ownC n nb ed 2) n 2 (s ||| 2 ^ v)))) ≤ (nI w) then 59 else 56), [.ref 7, .ref 11, .int (nI k), .int (nI s), .int (nI w), .int (nI v), d6], [], MW (upA A 11 (rowT r 10 (A 11))) B F sw, 0, 0)) 2 rfl ?_
          refine wp_ite (fun h2 => ?_) (fun h2 => ?_)
          · have h2 : comb 2 (ownC n nb ed 2 s v) (bgN (ownC n nb ed 2) n 2 (s ||| 2 ^ v)) ≤ w := (nI_leI (a := comb 2 (ownC n nb ed 2 s v) (bgN (ownC n nb ed 2) n 2 (s ||| 2 ^ v))) (b := w) (by omega) (by omega)).mp h2
            refine wp_go (f' := (63, [.ref 7, .ref 11, .int (nI k), .int (nI s), .int (nI w), .int (nI v), d6], [.int (nI v), .int (nI k), .ref 11], MW (upA A 11 (rowT r 10 (A 11))) B F sw, 0, 0)) 3 rfl ?_
            refine wp_iast rfl rfl (by omega) (by decide) ?_
            refine wp_eq (f' := (64, [.ref 7, .ref 11, .int (nI k), .int (nI s), .int (nI w), .int (nI v), d6], [], MW (upA A 11 (upd (rowT r 10 (A 11)) k (nI v))) B F sw, 0, 0)) rfl ?_
            rw [rowT_up (by omega)]
            refine wp_go (f' := (69, [.ref 7, .ref 11, .int (nI k), .int (nI s), .int (nI w), .int (nI v), d6], [.int ((nI 1) <<< ((nI v) &&& 31)), .int (nI s)], MW (upA A 11 (rowT (upN r k v) 10 (A 11))) B F sw, 0, 0)) 4 rfl ?_
            rw [bx_one (by omega)]
            refine wp_go (f' := (70, [.ref 7, .ref 11, .int (nI k), .int (nI s), .int (nI w), .int (nI v), d6], [.int ((nI s) ||| (nI (2 ^ v)))], MW (upA A 11 (rowT (upN r k v) 10 (A 11))) B F sw, 0, 0)) 1 rfl ?_
            rw [bx_or]
            refine wp_go (f' := (79, [.ref 7, .ref 11, .int (nI k), .int (nI s), .int (nI w), .int (nI v), .int (nI (s ||| (2 ^ v)))], [.int (nI w), .int (nI (s ||| (2 ^ v))), .int (nI k), .ref 11, .ref 7], MW (upA A 11 (rowT (upN r k v) 10 (A 11))) B F sw, 0, 0)) 6 rfl ?_
            refine wp_call rfl rfl rfl (ev_up (ev_hasRoom (A := upA A 11 (rowT (upN r k v) 10 (A 11))) (r := upN r k v) (k := k) (s := s ||| 2 ^ v) (w := w) hC (by omega) (by omega) hw (fun j hj => ⟨rowT_at hj, hru j hj⟩)) (by omega)) ?_
            refine wp_eq (f' := (82, [.ref 7, .ref 11, .int (nI k), .int (nI s), .int (nI w), .int (nI v), .int (nI (s ||| (2 ^ v)))], [.int (bI (roomN nb (upN r k v) k (s ||| 2 ^ v) w))], MW (upA A 11 (rowT (upN r k v) 10 (A 11))) B F sw, 0, 0)) rfl ?_
            refine wp_go (f' := ((if (bI (roomN nb (upN r k v) k (s ||| 2 ^ v) w)) = 0 then 102 else 85), [.ref 7, .ref 11, .int (nI k), .int (nI s), .int (nI w), .int (nI v), .int (nI (s ||| (2 ^ v)))], [], MW (upA A 11 (rowT (upN r k v) 10 (A 11))) B F sw, 0, 0)) 1 rfl ?_
            refine wp_ite (fun h3 => ?_) (fun h3 => ?_)
            · have h3 := bI_0.mp h3
              refine wp_go (f' := (105, [.ref 7, .ref 11, .int (nI k), .int (nI s), .int (nI w), .int ((nI v) + 1), .int (nI (s ||| (2 ^ v)))], [], MW (upA A 11 (rowT (upN r k v) 10 (A 11))) B F sw, 0, 0)) 1 rfl ?_
              rw [nI_1]
              refine wp_go (f' := (22, [.ref 7, .ref 11, .int (nI k), .int (nI s), .int (nI w), .int (nI (v + 1)), .int (nI (s ||| (2 ^ v)))], [], MW (upA A 11 (rowT (upN r k v) 10 (A 11))) B F sw, 0, 0)) 1 rfl ?_
              have hb0 : bokN n nb ed w s v = true := by unfold bokN; rw [h1, decide_eq_true h2]; rfl
              rw [if_pos (by rw [hb0])]
              rw [if_neg (by rw [h3]; exact Bool.false_ne_true)]
              exact ihm (v + 1) (upN r k v) (.int (nI (s ||| (2 ^ v)))) (by omega) hru
            · have h3 := bI_n0 h3
              refine wp_go (f' := (90, [.ref 7, .ref 11, .int (nI k), .int (nI s), .int (nI w), .int (nI v), .int (nI (s ||| (2 ^ v)))], [.int ((nI k) + (nI 1)), .ref 11, .ref 7], MW (upA A 11 (rowT (upN r k v) 10 (A 11))) B F sw, 0, 0)) 5 rfl ?_
              rw [nI_add]
              refine wp_go (f' := (94, [.ref 7, .ref 11, .int (nI k), .int (nI s), .int (nI w), .int (nI v), .int (nI (s ||| (2 ^ v)))], [.int (nI w), .int (nI (s ||| (2 ^ v))), .int (nI (k + 1)), .ref 11, .ref 7], MW (upA A 11 (rowT (upN r k v) 10 (A 11))) B F sw, 0, 0)) 2 rfl ?_
              refine wp_call rfl rfl rfl (ev_up (ihf (k + 1) (s ||| 2 ^ v) (upN r k v) (by omega) hw9 hru) (by omega)) ?_
              refine wp_eq (f' := (97, [.ref 7, .ref 11, .int (nI k), .int (nI s), .int (nI w), .int (nI v), .int (nI (s ||| (2 ^ v)))], [.int (bI (bandF n nb ed w f (k + 1) (s ||| 2 ^ v) (upN r k v)).1)], MW (upA A 11 (rowT (bandF n nb ed w f (k + 1) (s ||| 2 ^ v) (upN r k v)).2 10 (A 11))) B F sw, 0, 0)) rfl ?_
              refine wp_go (f' := ((if (bI (bandF n nb ed w f (k + 1) (s ||| 2 ^ v) (upN r k v)).1) = 0 then 102 else 100), [.ref 7, .ref 11, .int (nI k), .int (nI s), .int (nI w), .int (nI v), .int (nI (s ||| (2 ^ v)))], [], MW (upA A 11 (rowT (bandF n nb ed w f (k + 1) (s ||| 2 ^ v) (upN r k v)).2 10 (A 11))) B F sw, 0, 0)) 1 rfl ?_
              refine wp_ite (fun h4 => ?_) (fun h4 => ?_)
              · have h4 := bI_0.mp h4
                refine wp_go (f' := (105, [.ref 7, .ref 11, .int (nI k), .int (nI s), .int (nI w), .int ((nI v) + 1), .int (nI (s ||| (2 ^ v)))], [], MW (upA A 11 (rowT (bandF n nb ed w f (k + 1) (s ||| 2 ^ v) (upN r k v)).2 10 (A 11))) B F sw, 0, 0)) 1 rfl ?_
                rw [nI_1]
                refine wp_go (f' := (22, [.ref 7, .ref 11, .int (nI k), .int (nI s), .int (nI w), .int (nI (v + 1)), .int (nI (s ||| (2 ^ v)))], [], MW (upA A 11 (rowT (bandF n nb ed w f (k + 1) (s ||| 2 ^ v) (upN r k v)).2 10 (A 11))) B F sw, 0, 0)) 1 rfl ?_
                have hb0 : bokN n nb ed w s v = true := by unfold bokN; rw [h1, decide_eq_true h2]; rfl
                rw [if_pos (by rw [hb0])]
                rw [if_pos h3, if_neg (by rw [h4]; exact Bool.false_ne_true)]
                exact ihm (v + 1) (bandF n nb ed w f (k + 1) (s ||| 2 ^ v) (upN r k v)).2 (.int (nI (s ||| (2 ^ v)))) (by omega) (bandF_lt hn _ _ _ _ hru)
              · have h4 := bI_n0 h4
                refine wp_go (f' := (101, [.ref 7, .ref 11, .int (nI k), .int (nI s), .int (nI w), .int (nI v), .int (nI (s ||| (2 ^ v)))], [.int (nI 1)], MW (upA A 11 (rowT (bandF n nb ed w f (k + 1) (s ||| 2 ^ v) (upN r k v)).2 10 (A 11))) B F sw, 0, 0)) 1 rfl ?_
                have hb0 : bokN n nb ed w s v = true := by unfold bokN; rw [h1, decide_eq_true h2]; rfl
                rw [if_pos (by rw [hb0])]
                rw [if_pos h3, if_pos h4]
                exact wp_zret rfl (by first | exact Or.inl rfl | exact Or.inr rfl)
          · have h2 : ¬ (comb 2 (ownC n nb ed 2 s v) (bgN (ownC n nb ed 2) n 2 (s ||| 2 ^ v)) ≤ w) := fun h9 => h2 ((nI_leI (a := comb 2 (ownC n nb ed 2 s v) (bgN (ownC n nb ed 2) n 2 (s ||| 2 ^ v))) (b := w) (by omega) (by omega)).mpr h9)
            refine wp_go (f' := (105, [.ref 7, .ref 11, .int (nI k), .int (nI s), .int (nI w), .int ((nI v) + 1), d6], [], MW (upA A 11 (rowT r 10 (A 11))) B F sw, 0, 0)) 2 rfl ?_
            rw [nI_1]
            refine wp_go (f' := (22, [.ref 7, .ref 11, .int (nI k), .int (nI s), .int (nI w), .int (nI (v + 1)), d6], [], MW (upA A 11 (rowT r 10 (A 11))) B F sw, 0, 0)) 1 rfl ?_
            have hb0 : bokN n nb ed w s v = false := by unfold bokN; rw [h1, decide_eq_false h2]; rfl
            rw [if_neg (by rw [hb0]; exact Bool.false_ne_true)]
            exact ihm (v + 1) r d6 (by omega) hr
    exact hgo n 0 r _ (by omega) hr
theorem lp_band (hC : CI A F n nb) (hR : RI A n nb) {ed : Nat} (hE : F 1 = nI ed) (hQ : CEd n nb ed) (hT : ∀ j, j < 2 ^ n → A 16 j = nI (bgN (ownC n nb ed 2) n 2 j)) : ∀ (f w : Nat) (r : Nat → Nat), w ≤ 1000 → n ≤ w + f → (∀ j, j < 10 → r j < 10) → mv_Wp xs Ls (5 + n) 4 false (some .int) mv_c43 (7, [.ref 7, .ref 11, .int (nI w)], [], MW (upA A 11 (rowT r 10 (A 11))) B F sw, 0, 0) (some (.int (nI (bandW n nb ed f w r).1)), MW (upA A 11 (rowT (bandW n nb ed f w r).2 10 (A 11))) B F sw, 0, 0) := by
  have hn := hC.1
  have hp := pow10 hn
  have hp1 : 1 ≤ 2 ^ n := Nat.one_le_two_pow
  have hal := all_lt hn
  intro f
  induction f with
  | zero =>
    intro w r hw hf hr
    refine wp_go (f' := (15, [.ref 7, .ref 11, .int (nI w)], [.int (F 0), .int (nI w)], MW (upA A 11 (rowT r 10 (A 11))) B F sw, 0, 0)) 4 rfl ?_
    rw [hC.2.1]
    refine wp_go (f' := ((if (nI n) ≤ (nI w) then 35 else 18), [.ref 7, .ref 11, .int (nI w)], [], MW (upA A 11 (rowT r 10 (A 11))) B F sw, 0, 0)) 1 rfl ?_
    refine wp_ite (fun _ => ?_) (fun h9 => absurd (nI_le (by omega) (by omega)) h9)
    refine wp_go (f' := (36, [.ref 7, .ref 11, .int (nI w)], [.int (nI w)], MW (upA A 11 (rowT r 10 (A 11))) B F sw, 0, 0)) 1 rfl ?_
    exact wp_iret rfl
  | succ f ih =>
    intro w r hw hf hr
    unfold bandW
    by_cases hwn : w < n
    · rw [if_pos hwn]
      refine wp_go (f' := (15, [.ref 7, .ref 11, .int (nI w)], [.int (F 0), .int (nI w)], MW (upA A 11 (rowT r 10 (A 11))) B F sw, 0, 0)) 4 rfl ?_
      rw [hC.2.1]
      refine wp_go (f' := ((if (nI n) ≤ (nI w) then 35 else 18), [.ref 7, .ref 11, .int (nI w)], [], MW (upA A 11 (rowT r 10 (A 11))) B F sw, 0, 0)) 1 rfl ?_
      refine wp_ite (fun h9 => absurd h9 (nI_ge hwn (by omega))) (fun _ => ?_)
      refine wp_go (f' := (23, [.ref 7, .ref 11, .int (nI w)], [.int (nI w), .int (nI 0), .int (nI 0), .ref 11, .ref 7], MW (upA A 11 (rowT r 10 (A 11))) B F sw, 0, 0)) 5 rfl ?_
      refine wp_call rfl rfl rfl (ev_up (ev_bandB hC hR hE hQ hT hw n 0 0 r (by omega) (by omega) hr) (by omega)) ?_
      refine wp_eq (f' := (26, [.ref 7, .ref 11, .int (nI w)], [.int (bI (bandF n nb ed w n 0 0 r).1)], MW (upA A 11 (rowT (bandF n nb ed w n 0 0 r).2 10 (A 11))) B F sw, 0, 0)) rfl ?_
      refine wp_go (f' := ((if ¬ (bI (bandF n nb ed w n 0 0 r).1) = 0 then 35 else 29), [.ref 7, .ref 11, .int (nI w)], [], MW (upA A 11 (rowT (bandF n nb ed w n 0 0 r).2 10 (A 11))) B F sw, 0, 0)) 1 rfl ?_
      refine wp_ite (fun h1 => ?_) (fun h1 => ?_)
      · have h1 := bI_n0 h1
        refine wp_go (f' := (36, [.ref 7, .ref 11, .int (nI w)], [.int (nI w)], MW (upA A 11 (rowT (bandF n nb ed w n 0 0 r).2 10 (A 11))) B F sw, 0, 0)) 1 rfl ?_
        rw [if_pos h1]
        exact wp_iret rfl
      · have h1 := Classical.not_not.mp h1; have h1 := bI_0.mp h1
        refine wp_go (f' := (32, [.ref 7, .ref 11, .int ((nI w) + 1)], [], MW (upA A 11 (rowT (bandF n nb ed w n 0 0 r).2 10 (A 11))) B F sw, 0, 0)) 1 rfl ?_
        rw [nI_1]
        refine wp_go (f' := (7, [.ref 7, .ref 11, .int (nI (w + 1))], [], MW (upA A 11 (rowT (bandF n nb ed w n 0 0 r).2 10 (A 11))) B F sw, 0, 0)) 1 rfl ?_
        rw [if_neg (by rw [h1]; exact Bool.false_ne_true)]
        exact ih (w + 1) _ (by omega) (by omega) (bandF_lt hn _ _ _ _ hr)
    · rw [if_neg hwn]
      refine wp_go (f' := (15, [.ref 7, .ref 11, .int (nI w)], [.int (F 0), .int (nI w)], MW (upA A 11 (rowT r 10 (A 11))) B F sw, 0, 0)) 4 rfl ?_
      rw [hC.2.1]
      refine wp_go (f' := ((if (nI n) ≤ (nI w) then 35 else 18), [.ref 7, .ref 11, .int (nI w)], [], MW (upA A 11 (rowT r 10 (A 11))) B F sw, 0, 0)) 1 rfl ?_
      refine wp_ite (fun _ => ?_) (fun h9 => absurd (nI_le (by omega) (by omega)) h9)
      refine wp_go (f' := (36, [.ref 7, .ref 11, .int (nI w)], [.int (nI w)], MW (upA A 11 (rowT r 10 (A 11))) B F sw, 0, 0)) 1 rfl ?_
      exact wp_iret rfl
theorem ev_layBand (hC : CI A F n nb) (hR : RI A n nb) {ed : Nat} (hE : F 1 = nI ed) (hQ : CEd n nb ed) (hT : ∀ j, j < 2 ^ n → A 16 j = nI (bgN (ownC n nb ed 2) n 2 j)) {r : Nat → Nat} (hr : ∀ j, j < 10 → r j < 10) : mv_Ev xs Ls (5 + n + 1) 43 [.ref 7, .ref 11] (MW (upA A 11 (rowT r 10 (A 11))) B F sw) (some (.int (nI (bandW n nb ed n (bgN (ownC n nb ed 2) n 2 0) r).1)), MW (upA A 11 (rowT (bandW n nb ed n (bgN (ownC n nb ed 2) n 2 0) r).2 10 (A 11))) B F sw, 0, 0) := by
  refine ev_of_wp rfl rfl rfl ?_
  have hn := hC.1
  have hp := pow10 hn
  have hp1 : 1 ≤ 2 ^ n := Nat.one_le_two_pow
  have hal := all_lt hn
  refine wp_go (f' := (5, [.ref 7, .ref 11, .retAddr 0], [.int (nI 0), .ref 16], MW (upA A 11 (rowT r 10 (A 11))) B F sw, 0, 0)) 3 rfl ?_
  refine wp_iald rfl rfl (by omega) (by decide) ?_
  refine wp_eq (f' := (6, [.ref 7, .ref 11, .retAddr 0], [.int ((A 16) 0)], MW (upA A 11 (rowT r 10 (A 11))) B F sw, 0, 0)) rfl ?_
  rw [hT 0 (by omega)]
  refine wp_go (f' := (7, [.ref 7, .ref 11, .int (nI (bgN (ownC n nb ed 2) n 2 0))], [], MW (upA A 11 (rowT r 10 (A 11))) B F sw, 0, 0)) 1 rfl ?_
  exact lp_band hC hR hE hQ hT n _ r (bgN_le (by omega)) (by omega) hr
end CC
