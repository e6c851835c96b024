/-! the reference's search for a band -/
def bsV {α : Type} (ok : Nat → Bool) (rc : Nat → Option α) : Nat → Nat → Option α
  | 0, _ => none
  | m + 1, v => if ok v = true then (match rc v with
    | some x => some x
    | none => bsV ok rc m (v + 1)) else bsV ok rc m (v + 1)
def bsK (n : Nat) (nb : Nat → Nat) (w k : Nat) (r : Nat → Nat) (v : Nat) : Bool := !(stN r k v) && isBN n nb (upN r k v) (k + 1) w
def bsF (n : Nat) (nb : Nat → Nat) (w : Nat) : Nat → Nat → (Nat → Nat) → Option (Nat → Nat)
  | 0, _, r => some r
  | f + 1, k, r => bsV (bsK n nb w k r) (fun v => bsF n nb w f (k + 1) (upN r k v)) n 0
theorem bsV_no {α : Type} {ok : Nat → Bool} {rc : Nat → Option α} {m v : Nat} (h : ok v = false) : bsV ok rc (m + 1) v = bsV ok rc m (v + 1) := by
  show (if ok v = true then _ else _) = _
  rw [h]; rfl
theorem bsV_some {α : Type} {ok : Nat → Bool} {rc : Nat → Option α} {m v : Nat} {x : α} (h : ok v = true) (hx : rc v = some x) : bsV ok rc (m + 1) v = some x := by
  show (if ok v = true then _ else _) = _
  rw [if_pos h, hx]
theorem bsV_none {α : Type} {ok : Nat → Bool} {rc : Nat → Option α} {m v : Nat} (h : ok v = true) (hx : rc v = none) : bsV ok rc (m + 1) v = bsV ok rc m (v + 1) := by
  show (if ok v = true then _ else _) = _
  rw [if_pos h, hx]
section MM
variable {xs : Nat → Int32} {Ls : Nat} {A : Nat → Nat → Int32} {B : Nat → Nat → Int64} {F : Nat → Int32} {sw : Bool} {n : Nat} {nb : Nat → Nat}
theorem lp_bs (hM : MI A F n nb) {w w0 : Nat} (hw : w ≤ 100) {x0 : Nat → Nat} : ∀ (f k : Nat) (r : Nat → Nat), k + (f + 1) = n → (∀ j, j < k → r j < n) → ∀ (m v : Nat) (g h : Nat → Int32), v + m = n → (∀ j, j < k → g j = nI (r j)) → g k = nI v → (∀ (x : Nat → Nat) (g' h' : Nat → Int32), bsV (bsK n nb w k r) (fun v => bsF n nb w f (k + 1) (upN r k v)) m v = some x → (∀ j, j < n → g' j = nI (x j)) → ∃ g32 g36 : Nat → Int32, (∀ j, j < n → g32 j = nI (x0 j)) ∧ mv_Wp xs Ls 3 6 false (some .int) mv_c108 (20, [.ref 28, .int (nI w), .int (nI n)], [], MW (upA (upA A 32 g') 36 h') B F sw, 0, 0) (some (.int (nI w0)), MW (upA (upA A 32 g32) 36 g36) B F sw, 0, 0)) → (∀ (g' h' : Nat → Int32), bsV (bsK n nb w k r) (fun v => bsF n nb w f (k + 1) (upN r k v)) m v = none → (∀ j, j < k → g' j = nI (r j)) → ∃ g32 g36 : Nat → Int32, (∀ j, j < n → g32 j = nI (x0 j)) ∧ mv_Wp xs Ls 3 6 false (some .int) mv_c108 (20, [.ref 28, .int (nI w), .int ((nI k) + (-1))], [], MW (upA (upA A 32 g') 36 h') B F sw, 0, 0) (some (.int (nI w0)), MW (upA (upA A 32 g32) 36 g36) B F sw, 0, 0)) → ∃ g32 g36 : Nat → Int32, (∀ j, j < n → g32 j = nI (x0 j)) ∧ mv_Wp xs Ls 3 6 false (some .int) mv_c108 (42, [.ref 28, .int (nI w), .int (nI k)], [], MW (upA (upA A 32 g) 36 h) B F sw, 0, 0) (some (.int (nI w0)), MW (upA (upA A 32 g32) 36 g36) B F sw, 0, 0) := by
  have hn := hM.1
  have hp := pow10 hn
  have hp1 : 1 ≤ 2 ^ n := Nat.one_le_two_pow
  have hal := all_lt hn
  intro f
  induction f with
  | zero =>
    intro k r hkf hrn m
    induction m with
    | zero =>
      intro v g h hvm hpre hgk hs hnn
      obtain ⟨g32, g36, hP, hW⟩ := hnn g h rfl hpre
      refine ⟨g32, g36, hP, ?_⟩
      refine wp_go (f' := (47, [.ref 28, .int (nI w), .int (nI k)], [.int (nI k), .ref 32], MW (upA (upA A 32 g) 36 h) B F sw, 0, 0)) 3 rfl ?_
      refine wp_iald rfl rfl (by omega) (by decide) ?_
      refine wp_eq (f' := (48, [.ref 28, .int (nI w), .int (nI k)], [.int (g k)], MW (upA (upA A 32 g) 36 h) B F sw, 0, 0)) rfl ?_
      rw [hgk]
      refine wp_go (f' := (52, [.ref 28, .int (nI w), .int (nI k)], [.int (F 6), .int (nI v)], MW (upA (upA A 32 g) 36 h) B F sw, 0, 0)) 2 rfl ?_
      rw [hM.2.1]
      refine wp_go (f' := ((if (nI n) ≤ (nI v) then 93 else 55), [.ref 28, .int (nI w), .int (nI k)], [], MW (upA (upA A 32 g) 36 h) B F sw, 0, 0)) 1 rfl ?_
      refine wp_ite (fun _ => ?_) (fun h9 => absurd (nI_le (by omega) (by omega)) h9)
      refine wp_go (f' := (98, [.ref 28, .int (nI w), .int (nI k)], [.int (nI k), .ref 32], MW (upA (upA A 32 g) 36 h) B F sw, 0, 0)) 3 rfl ?_
      refine wp_iald rfl rfl (by omega) (by decide) ?_
      refine wp_eq (f' := (99, [.ref 28, .int (nI w), .int (nI k)], [.int (g k)], MW (upA (upA A 32 g) 36 h) B F sw, 0, 0)) rfl ?_
      rw [hgk]
      refine wp_go (f' := (103, [.ref 28, .int (nI w), .int (nI k)], [.int (F 6), .int (nI v)], MW (upA (upA A 32 g) 36 h) B F sw, 0, 0)) 2 rfl ?_
      rw [hM.2.1]
      refine wp_go (f' := ((if (nI v) < (nI n) then 112 else 106), [.ref 28, .int (nI w), .int (nI k)], [], MW (upA (upA A 32 g) 36 h) B F sw, 0, 0)) 1 rfl ?_
      refine wp_ite (fun h9 => absurd h9 (nI_nlt (by omega) (by omega))) (fun _ => ?_)
      refine wp_go (f' := (20, [.ref 28, .int (nI w), .int ((nI k) + (-1))], [], MW (upA (upA A 32 g) 36 h) B F sw, 0, 0)) 2 rfl ?_
      exact hW
    | succ m ihm =>
      intro v g h hvm hpre hgk hs hnn
      have hprev : ∀ g' : Nat → Int32, (∀ j, j < k → g' j = nI (r j)) → ∀ j, j < k → upd g' k (nI (v + 1)) j = nI (r j) := fun g' hg j hj => by rw [pk_un (by omega)]; exact hg j hj
      have hpre2 : ∀ j, j < k + 1 → g j = nI ((upN r k v) j) ∧ (upN r k v) j < n := by
        intro j hj
        unfold upN
        by_cases e : j = k
        · rw [if_pos e, e]; exact ⟨hgk, by omega⟩
        · rw [if_neg e]; exact ⟨hpre j (by omega), hrn j (by omega)⟩
      cases hst : stN r k v with
      | true =>
        have hok : bsK n nb w k r v = false := by unfold bsK; rw [hst]; rfl
        rw [bsV_no hok] at hs hnn
        obtain ⟨g32, g36, hP, hW⟩ := ihm (v + 1) (upd g k (nI (v + 1))) h (by omega) (hprev g hpre) pk_us hs hnn
        refine ⟨g32, g36, hP, ?_⟩
        refine wp_go (f' := (47, [.ref 28, .int (nI w), .int (nI k)], [.int (nI k), .ref 32], MW (upA (upA A 32 g) 36 h) B F sw, 0, 0)) 3 rfl ?_
        refine wp_iald rfl rfl (by omega) (by decide) ?_
        refine wp_eq (f' := (48, [.ref 28, .int (nI w), .int (nI k)], [.int (g k)], MW (upA (upA A 32 g) 36 h) B F sw, 0, 0)) rfl ?_
        rw [hgk]
        refine wp_go (f' := (52, [.ref 28, .int (nI w), .int (nI k)], [.int (F 6), .int (nI v)], MW (upA (upA A 32 g) 36 h) B F sw, 0, 0)) 2 rfl ?_
        rw [hM.2.1]
        refine wp_go (f' := ((if (nI n) ≤ (nI v) then 93 else 55), [.ref 28, .int (nI w), .int (nI k)], [], MW (upA (upA A 32 g) 36 h) B F sw, 0, 0)) 1 rfl ?_
        refine wp_ite (fun h9 => absurd h9 (nI_ge (by omega) (by omega))) (fun _ => ?_)
        refine wp_go (f' := (62, [.ref 28, .int (nI w), .int (nI k)], [.int (nI k), .ref 32, .int (nI k), .ref 28], MW (upA (upA A 32 g) 36 h) B F sw, 0, 0)) 5 rfl ?_
        refine wp_iald rfl rfl (by omega) (by decide) ?_
        refine wp_eq (f' := (63, [.ref 28, .int (nI w), .int (nI k)], [.int (g k), .int (nI k), .ref 28], MW (upA (upA A 32 g) 36 h) B F sw, 0, 0)) rfl ?_
        rw [hgk]
        refine wp_call rfl rfl rfl (ev_up (ev_stands (A := upA (upA A 32 g) 36 h) hM (r := r) (many := k) (by omega) (fun j hj => ⟨hpre j hj, hrn j hj⟩) (v := v) (by omega)) (by decide)) ?_
        refine wp_eq (f' := (66, [.ref 28, .int (nI w), .int (nI k)], [.int (bI (stN r k v))], MW (upA (upA A 32 g) 36 h) B F sw, 0, 0)) rfl ?_
        refine wp_go (f' := ((if ¬ (bI (stN r k v)) = 0 then 80 else 69), [.ref 28, .int (nI w), .int (nI k)], [], MW (upA (upA A 32 g) 36 h) B F sw, 0, 0)) 1 rfl ?_
        refine wp_ite (fun _ => ?_) (fun h9 => absurd (by rw [hst]; decide) h9)
        refine wp_go (f' := (86, [.ref 28, .int (nI w), .int (nI k)], [.int (nI k), .ref 32, .int (nI k), .ref 32], MW (upA (upA A 32 g) 36 h) B F sw, 0, 0)) 4 rfl ?_
        refine wp_iald rfl rfl (by omega) (by decide) ?_
        refine wp_eq (f' := (87, [.ref 28, .int (nI w), .int (nI k)], [.int (g k), .int (nI k), .ref 32], MW (upA (upA A 32 g) 36 h) B F sw, 0, 0)) rfl ?_
        rw [hgk]
        refine wp_go (f' := (89, [.ref 28, .int (nI w), .int (nI k)], [.int ((nI v) + (nI 1)), .int (nI k), .ref 32], MW (upA (upA A 32 g) 36 h) B F sw, 0, 0)) 2 rfl ?_
        rw [nI_add]
        refine wp_iast rfl rfl (by omega) (by decide) ?_
        refine wp_eq (f' := (90, [.ref 28, .int (nI w), .int (nI k)], [], MW (upA (upA A 36 h) 32 (upd g k (nI (v + 1)))) B F sw, 0, 0)) rfl ?_
        refine wp_go (f' := (42, [.ref 28, .int (nI w), .int (nI k)], [], MW (upA (upA A 36 h) 32 (upd g k (nI (v + 1)))) B F sw, 0, 0)) 1 rfl ?_
        exact hW
      | false =>
        cases hbd : isBN n nb (upN r k v) (k + 1) w with
        | false =>
          have hok : bsK n nb w k r v = false := by unfold bsK; rw [hst, hbd]; rfl
          rw [bsV_no hok] at hs hnn
          obtain ⟨g32, g36, hP, hW⟩ := ihm (v + 1) (upd g k (nI (v + 1))) (plA n (upN r k v) (k + 1) h) (by omega) (hprev g hpre) pk_us hs hnn
          refine ⟨g32, g36, hP, ?_⟩
          refine wp_go (f' := (47, [.ref 28, .int (nI w), .int (nI k)], [.int (nI k), .ref 32], MW (upA (upA A 32 g) 36 h) B F sw, 0, 0)) 3 rfl ?_
          refine wp_iald rfl rfl (by omega) (by decide) ?_
          refine wp_eq (f' := (48, [.ref 28, .int (nI w), .int (nI k)], [.int (g k)], MW (upA (upA A 32 g) 36 h) B F sw, 0, 0)) rfl ?_
          rw [hgk]
          refine wp_go (f' := (52, [.ref 28, .int (nI w), .int (nI k)], [.int (F 6), .int (nI v)], MW (upA (upA A 32 g) 36 h) B F sw, 0, 0)) 2 rfl ?_
          rw [hM.2.1]
          refine wp_go (f' := ((if (nI n) ≤ (nI v) then 93 else 55), [.ref 28, .int (nI w), .int (nI k)], [], MW (upA (upA A 32 g) 36 h) B F sw, 0, 0)) 1 rfl ?_
          refine wp_ite (fun h9 => absurd h9 (nI_ge (by omega) (by omega))) (fun _ => ?_)
          refine wp_go (f' := (62, [.ref 28, .int (nI w), .int (nI k)], [.int (nI k), .ref 32, .int (nI k), .ref 28], MW (upA (upA A 32 g) 36 h) B F sw, 0, 0)) 5 rfl ?_
          refine wp_iald rfl rfl (by omega) (by decide) ?_
          refine wp_eq (f' := (63, [.ref 28, .int (nI w), .int (nI k)], [.int (g k), .int (nI k), .ref 28], MW (upA (upA A 32 g) 36 h) B F sw, 0, 0)) rfl ?_
          rw [hgk]
          refine wp_call rfl rfl rfl (ev_up (ev_stands (A := upA (upA A 32 g) 36 h) hM (r := r) (many := k) (by omega) (fun j hj => ⟨hpre j hj, hrn j hj⟩) (v := v) (by omega)) (by decide)) ?_
          refine wp_eq (f' := (66, [.ref 28, .int (nI w), .int (nI k)], [.int (bI (stN r k v))], MW (upA (upA A 32 g) 36 h) B F sw, 0, 0)) rfl ?_
          refine wp_go (f' := ((if ¬ (bI (stN r k v)) = 0 then 80 else 69), [.ref 28, .int (nI w), .int (nI k)], [], MW (upA (upA A 32 g) 36 h) B F sw, 0, 0)) 1 rfl ?_
          refine wp_ite (fun h9 => absurd h9 (fun h8 => h8 (bI_f hst))) (fun _ => ?_)
          refine wp_go (f' := (73, [.ref 28, .int (nI w), .int (nI k)], [.int ((nI k) + (nI 1)), .ref 28], MW (upA (upA A 32 g) 36 h) B F sw, 0, 0)) 4 rfl ?_
          rw [nI_add]
          refine wp_go (f' := (74, [.ref 28, .int (nI w), .int (nI k)], [.int (nI w), .int (nI (k + 1)), .ref 28], MW (upA (upA A 32 g) 36 h) B F sw, 0, 0)) 1 rfl ?_
          refine wp_call rfl rfl rfl (ev_up (ev_isBand (A := upA (upA A 32 g) 36 h) hM (r := (upN r k v)) (many := k + 1) (by omega) hpre2 (width := w) hw) (by decide)) ?_
          refine wp_eq (f' := (77, [.ref 28, .int (nI w), .int (nI k)], [.int (bI (isBN n nb (upN r k v) (k + 1) w))], MW (upA (upA A 32 g) 36 (plA n (upN r k v) (k + 1) h)) B F sw, 0, 0)) rfl ?_
          refine wp_go (f' := ((if ¬ (bI (isBN n nb (upN r k v) (k + 1) w)) = 0 then 93 else 80), [.ref 28, .int (nI w), .int (nI k)], [], MW (upA (upA A 32 g) 36 (plA n (upN r k v) (k + 1) h)) B F sw, 0, 0)) 1 rfl ?_
          refine wp_ite (fun h9 => absurd h9 (fun h8 => h8 (bI_f hbd))) (fun _ => ?_)
          refine wp_go (f' := (86, [.ref 28, .int (nI w), .int (nI k)], [.int (nI k), .ref 32, .int (nI k), .ref 32], MW (upA (upA A 32 g) 36 (plA n (upN r k v) (k + 1) h)) B F sw, 0, 0)) 4 rfl ?_
          refine wp_iald rfl rfl (by omega) (by decide) ?_
          refine wp_eq (f' := (87, [.ref 28, .int (nI w), .int (nI k)], [.int (g k), .int (nI k), .ref 32], MW (upA (upA A 32 g) 36 (plA n (upN r k v) (k + 1) h)) B F sw, 0, 0)) rfl ?_
          rw [hgk]
          refine wp_go (f' := (89, [.ref 28, .int (nI w), .int (nI k)], [.int ((nI v) + (nI 1)), .int (nI k), .ref 32], MW (upA (upA A 32 g) 36 (plA n (upN r k v) (k + 1) h)) B F sw, 0, 0)) 2 rfl ?_
          rw [nI_add]
          refine wp_iast rfl rfl (by omega) (by decide) ?_
          refine wp_eq (f' := (90, [.ref 28, .int (nI w), .int (nI k)], [], MW (upA (upA A 36 (plA n (upN r k v) (k + 1) h)) 32 (upd g k (nI (v + 1)))) B F sw, 0, 0)) rfl ?_
          refine wp_go (f' := (42, [.ref 28, .int (nI w), .int (nI k)], [], MW (upA (upA A 36 (plA n (upN r k v) (k + 1) h)) 32 (upd g k (nI (v + 1)))) B F sw, 0, 0)) 1 rfl ?_
          exact hW
        | true =>
          have hok : bsK n nb w k r v = true := by unfold bsK; rw [hst, hbd]; rfl
          have hkn : k + 1 = n := by omega
          obtain ⟨g32, g36, hP, hW⟩ := hs (upN r k v) g (plA n (upN r k v) (k + 1) h) (bsV_some hok rfl) (fun j hj => (hpre2 j (by omega)).1)
          refine ⟨g32, g36, hP, ?_⟩
          refine wp_go (f' := (47, [.ref 28, .int (nI w), .int (nI k)], [.int (nI k), .ref 32], MW (upA (upA A 32 g) 36 h) B F sw, 0, 0)) 3 rfl ?_
          refine wp_iald rfl rfl (by omega) (by decide) ?_
          refine wp_eq (f' := (48, [.ref 28, .int (nI w), .int (nI k)], [.int (g k)], MW (upA (upA A 32 g) 36 h) B F sw, 0, 0)) rfl ?_
          rw [hgk]
          refine wp_go (f' := (52, [.ref 28, .int (nI w), .int (nI k)], [.int (F 6), .int (nI v)], MW (upA (upA A 32 g) 36 h) B F sw, 0, 0)) 2 rfl ?_
          rw [hM.2.1]
          refine wp_go (f' := ((if (nI n) ≤ (nI v) then 93 else 55), [.ref 28, .int (nI w), .int (nI k)], [], MW (upA (upA A 32 g) 36 h) B F sw, 0, 0)) 1 rfl ?_
          refine wp_ite (fun h9 => absurd h9 (nI_ge (by omega) (by omega))) (fun _ => ?_)
          refine wp_go (f' := (62, [.ref 28, .int (nI w), .int (nI k)], [.int (nI k), .ref 32, .int (nI k), .ref 28], MW (upA (upA A 32 g) 36 h) B F sw, 0, 0)) 5 rfl ?_
          refine wp_iald rfl rfl (by omega) (by decide) ?_
          refine wp_eq (f' := (63, [.ref 28, .int (nI w), .int (nI k)], [.int (g k), .int (nI k), .ref 28], MW (upA (upA A 32 g) 36 h) B F sw, 0, 0)) rfl ?_
          rw [hgk]
          refine wp_call rfl rfl rfl (ev_up (ev_stands (A := upA (upA A 32 g) 36 h) hM (r := r) (many := k) (by omega) (fun j hj => ⟨hpre j hj, hrn j hj⟩) (v := v) (by omega)) (by decide)) ?_
          refine wp_eq (f' := (66, [.ref 28, .int (nI w), .int (nI k)], [.int (bI (stN r k v))], MW (upA (upA A 32 g) 36 h) B F sw, 0, 0)) rfl ?_
          refine wp_go (f' := ((if ¬ (bI (stN r k v)) = 0 then 80 else 69), [.ref 28, .int (nI w), .int (nI k)], [], MW (upA (upA A 32 g) 36 h) B F sw, 0, 0)) 1 rfl ?_
          refine wp_ite (fun h9 => absurd h9 (fun h8 => h8 (bI_f hst))) (fun _ => ?_)
          refine wp_go (f' := (73, [.ref 28, .int (nI w), .int (nI k)], [.int ((nI k) + (nI 1)), .ref 28], MW (upA (upA A 32 g) 36 h) B F sw, 0, 0)) 4 rfl ?_
          rw [nI_add]
          refine wp_go (f' := (74, [.ref 28, .int (nI w), .int (nI k)], [.int (nI w), .int (nI (k + 1)), .ref 28], MW (upA (upA A 32 g) 36 h) B F sw, 0, 0)) 1 rfl ?_
          refine wp_call rfl rfl rfl (ev_up (ev_isBand (A := upA (upA A 32 g) 36 h) hM (r := (upN r k v)) (many := k + 1) (by omega) hpre2 (width := w) hw) (by decide)) ?_
          refine wp_eq (f' := (77, [.ref 28, .int (nI w), .int (nI k)], [.int (bI (isBN n nb (upN r k v) (k + 1) w))], MW (upA (upA A 32 g) 36 (plA n (upN r k v) (k + 1) h)) B F sw, 0, 0)) rfl ?_
          refine wp_go (f' := ((if ¬ (bI (isBN n nb (upN r k v) (k + 1) w)) = 0 then 93 else 80), [.ref 28, .int (nI w), .int (nI k)], [], MW (upA (upA A 32 g) 36 (plA n (upN r k v) (k + 1) h)) B F sw, 0, 0)) 1 rfl ?_
          refine wp_ite (fun _ => ?_) (fun h9 => absurd (by rw [hbd]; decide) h9)
          refine wp_go (f' := (98, [.ref 28, .int (nI w), .int (nI k)], [.int (nI k), .ref 32], MW (upA (upA A 32 g) 36 (plA n (upN r k v) (k + 1) h)) B F sw, 0, 0)) 3 rfl ?_
          refine wp_iald rfl rfl (by omega) (by decide) ?_
          refine wp_eq (f' := (99, [.ref 28, .int (nI w), .int (nI k)], [.int (g k)], MW (upA (upA A 32 g) 36 (plA n (upN r k v) (k + 1) h)) B F sw, 0, 0)) rfl ?_
          rw [hgk]
          refine wp_go (f' := (103, [.ref 28, .int (nI w), .int (nI k)], [.int (F 6), .int (nI v)], MW (upA (upA A 32 g) 36 (plA n (upN r k v) (k + 1) h)) B F sw, 0, 0)) 2 rfl ?_
          rw [hM.2.1]
          refine wp_go (f' := ((if (nI v) < (nI n) then 112 else 106), [.ref 28, .int (nI w), .int (nI k)], [], MW (upA (upA A 32 g) 36 (plA n (upN r k v) (k + 1) h)) B F sw, 0, 0)) 1 rfl ?_
          refine wp_ite (fun _ => ?_) (fun h9 => absurd (nI_lt (by omega) (by omega)) h9)
          refine wp_go (f' := (115, [.ref 28, .int (nI w), .int ((nI k) + 1)], [], MW (upA (upA A 32 g) 36 (plA n (upN r k v) (k + 1) h)) B F sw, 0, 0)) 1 rfl ?_
          rw [nI_1]
          refine wp_go (f' := (120, [.ref 28, .int (nI w), .int (nI (k + 1))], [.int (F 6), .int (nI (k + 1))], MW (upA (upA A 32 g) 36 (plA n (upN r k v) (k + 1) h)) B F sw, 0, 0)) 3 rfl ?_
          rw [hM.2.1]
          refine wp_go (f' := ((if (nI n) ≤ (nI (k + 1)) then 20 else 123), [.ref 28, .int (nI w), .int (nI (k + 1))], [], MW (upA (upA A 32 g) 36 (plA n (upN r k v) (k + 1) h)) B F sw, 0, 0)) 1 rfl ?_
          refine wp_ite (fun _ => ?_) (fun h9 => absurd (nI_le (by omega) (by omega)) h9)
          rw [show nI (k + 1) = nI n by rw [hkn]]
          exact hW
  | succ f ihf =>
    intro k r hkf hrn m
    induction m with
    | zero =>
      intro v g h hvm hpre hgk hs hnn
      obtain ⟨g32, g36, hP, hW⟩ := hnn g h rfl hpre
      refine ⟨g32, g36, hP, ?_⟩
      refine wp_go (f' := (47, [.ref 28, .int (nI w), .int (nI k)], [.int (nI k), .ref 32], MW (upA (upA A 32 g) 36 h) B F sw, 0, 0)) 3 rfl ?_
      refine wp_iald rfl rfl (by omega) (by decide) ?_
      refine wp_eq (f' := (48, [.ref 28, .int (nI w), .int (nI k)], [.int (g k)], MW (upA (upA A 32 g) 36 h) B F sw, 0, 0)) rfl ?_
      rw [hgk]
      refine wp_go (f' := (52, [.ref 28, .int (nI w), .int (nI k)], [.int (F 6), .int (nI v)], MW (upA (upA A 32 g) 36 h) B F sw, 0, 0)) 2 rfl ?_
      rw [hM.2.1]
      refine wp_go (f' := ((if (nI n) ≤ (nI v) then 93 else 55), [.ref 28, .int (nI w), .int (nI k)], [], MW (upA (upA A 32 g) 36 h) B F sw, 0, 0)) 1 rfl ?_
      refine wp_ite (fun _ => ?_) (fun h9 => absurd (nI_le (by omega) (by omega)) h9)
      refine wp_go (f' := (98, [.ref 28, .int (nI w), .int (nI k)], [.int (nI k), .ref 32], MW (upA (upA A 32 g) 36 h) B F sw, 0, 0)) 3 rfl ?_
      refine wp_iald rfl rfl (by omega) (by decide) ?_
      refine wp_eq (f' := (99, [.ref 28, .int (nI w), .int (nI k)], [.int (g k)], MW (upA (upA A 32 g) 36 h) B F sw, 0, 0)) rfl ?_
      rw [hgk]
      refine wp_go (f' := (103, [.ref 28, .int (nI w), .int (nI k)], [.int (F 6), .int (nI v)], MW (upA (upA A 32 g) 36 h) B F sw, 0, 0)) 2 rfl ?_
      rw [hM.2.1]
      refine wp_go (f' := ((if (nI v) < (nI n) then 112 else 106), [.ref 28, .int (nI w), .int (nI k)], [], MW (upA (upA A 32 g) 36 h) B F sw, 0, 0)) 1 rfl ?_
      refine wp_ite (fun h9 => absurd h9 (nI_nlt (by omega) (by omega))) (fun _ => ?_)
      refine wp_go (f' := (20, [.ref 28, .int (nI w), .int ((nI k) + (-1))], [], MW (upA (upA A 32 g) 36 h) B F sw, 0, 0)) 2 rfl ?_
      exact hW
    | succ m ihm =>
      intro v g h hvm hpre hgk hs hnn
      have hprev : ∀ g' : Nat → Int32, (∀ j, j < k → g' j = nI (r j)) → ∀ j, j < k → upd g' k (nI (v + 1)) j = nI (r j) := fun g' hg j hj => by rw [pk_un (by omega)]; exact hg j hj
      have hpre2 : ∀ j, j < k + 1 → g j = nI ((upN r k v) j) ∧ (upN r k v) j < n := by
        intro j hj
        unfold upN
        by_cases e : j = k
        · rw [if_pos e, e]; exact ⟨hgk, by omega⟩
        · rw [if_neg e]; exact ⟨hpre j (by omega), hrn j (by omega)⟩
      cases hst : stN r k v with
      | true =>
        have hok : bsK n nb w k r v = false := by unfold bsK; rw [hst]; rfl
        rw [bsV_no hok] at hs hnn
        obtain ⟨g32, g36, hP, hW⟩ := ihm (v + 1) (upd g k (nI (v + 1))) h (by omega) (hprev g hpre) pk_us hs hnn
        refine ⟨g32, g36, hP, ?_⟩
        refine wp_go (f' := (47, [.ref 28, .int (nI w), .int (nI k)], [.int (nI k), .ref 32], MW (upA (upA A 32 g) 36 h) B F sw, 0, 0)) 3 rfl ?_
        refine wp_iald rfl rfl (by omega) (by decide) ?_
        refine wp_eq (f' := (48, [.ref 28, .int (nI w), .int (nI k)], [.int (g k)], MW (upA (upA A 32 g) 36 h) B F sw, 0, 0)) rfl ?_
        rw [hgk]
        refine wp_go (f' := (52, [.ref 28, .int (nI w), .int (nI k)], [.int (F 6), .int (nI v)], MW (upA (upA A 32 g) 36 h) B F sw, 0, 0)) 2 rfl ?_
        rw [hM.2.1]
        refine wp_go (f' := ((if (nI n) ≤ (nI v) then 93 else 55), [.ref 28, .int (nI w), .int (nI k)], [], MW (upA (upA A 32 g) 36 h) B F sw, 0, 0)) 1 rfl ?_
        refine wp_ite (fun h9 => absurd h9 (nI_ge (by omega) (by omega))) (fun _ => ?_)
        refine wp_go (f' := (62, [.ref 28, .int (nI w), .int (nI k)], [.int (nI k), .ref 32, .int (nI k), .ref 28], MW (upA (upA A 32 g) 36 h) B F sw, 0, 0)) 5 rfl ?_
        refine wp_iald rfl rfl (by omega) (by decide) ?_
        refine wp_eq (f' := (63, [.ref 28, .int (nI w), .int (nI k)], [.int (g k), .int (nI k), .ref 28], MW (upA (upA A 32 g) 36 h) B F sw, 0, 0)) rfl ?_
        rw [hgk]
        refine wp_call rfl rfl rfl (ev_up (ev_stands (A := upA (upA A 32 g) 36 h) hM (r := r) (many := k) (by omega) (fun j hj => ⟨hpre j hj, hrn j hj⟩) (v := v) (by omega)) (by decide)) ?_
        refine wp_eq (f' := (66, [.ref 28, .int (nI w), .int (nI k)], [.int (bI (stN r k v))], MW (upA (upA A 32 g) 36 h) B F sw, 0, 0)) rfl ?_
        refine wp_go (f' := ((if ¬ (bI (stN r k v)) = 0 then 80 else 69), [.ref 28, .int (nI w), .int (nI k)], [], MW (upA (upA A 32 g) 36 h) B F sw, 0, 0)) 1 rfl ?_
        refine wp_ite (fun _ => ?_) (fun h9 => absurd (by rw [hst]; decide) h9)
        refine wp_go (f' := (86, [.ref 28, .int (nI w), .int (nI k)], [.int (nI k), .ref 32, .int (nI k), .ref 32], MW (upA (upA A 32 g) 36 h) B F sw, 0, 0)) 4 rfl ?_
        refine wp_iald rfl rfl (by omega) (by decide) ?_
        refine wp_eq (f' := (87, [.ref 28, .int (nI w), .int (nI k)], [.int (g k), .int (nI k), .ref 32], MW (upA (upA A 32 g) 36 h) B F sw, 0, 0)) rfl ?_
        rw [hgk]
        refine wp_go (f' := (89, [.ref 28, .int (nI w), .int (nI k)], [.int ((nI v) + (nI 1)), .int (nI k), .ref 32], MW (upA (upA A 32 g) 36 h) B F sw, 0, 0)) 2 rfl ?_
        rw [nI_add]
        refine wp_iast rfl rfl (by omega) (by decide) ?_
        refine wp_eq (f' := (90, [.ref 28, .int (nI w), .int (nI k)], [], MW (upA (upA A 36 h) 32 (upd g k (nI (v + 1)))) B F sw, 0, 0)) rfl ?_
        refine wp_go (f' := (42, [.ref 28, .int (nI w), .int (nI k)], [], MW (upA (upA A 36 h) 32 (upd g k (nI (v + 1)))) B F sw, 0, 0)) 1 rfl ?_
        exact hW
      | false =>
        cases hbd : isBN n nb (upN r k v) (k + 1) w with
        | false =>
          have hok : bsK n nb w k r v = false := by unfold bsK; rw [hst, hbd]; rfl
          rw [bsV_no hok] at hs hnn
          obtain ⟨g32, g36, hP, hW⟩ := ihm (v + 1) (upd g k (nI (v + 1))) (plA n (upN r k v) (k + 1) h) (by omega) (hprev g hpre) pk_us hs hnn
          refine ⟨g32, g36, hP, ?_⟩
          refine wp_go (f' := (47, [.ref 28, .int (nI w), .int (nI k)], [.int (nI k), .ref 32], MW (upA (upA A 32 g) 36 h) B F sw, 0, 0)) 3 rfl ?_
          refine wp_iald rfl rfl (by omega) (by decide) ?_
          refine wp_eq (f' := (48, [.ref 28, .int (nI w), .int (nI k)], [.int (g k)], MW (upA (upA A 32 g) 36 h) B F sw, 0, 0)) rfl ?_
          rw [hgk]
          refine wp_go (f' := (52, [.ref 28, .int (nI w), .int (nI k)], [.int (F 6), .int (nI v)], MW (upA (upA A 32 g) 36 h) B F sw, 0, 0)) 2 rfl ?_
          rw [hM.2.1]
          refine wp_go (f' := ((if (nI n) ≤ (nI v) then 93 else 55), [.ref 28, .int (nI w), .int (nI k)], [], MW (upA (upA A 32 g) 36 h) B F sw, 0, 0)) 1 rfl ?_
          refine wp_ite (fun h9 => absurd h9 (nI_ge (by omega) (by omega))) (fun _ => ?_)
          refine wp_go (f' := (62, [.ref 28, .int (nI w), .int (nI k)], [.int (nI k), .ref 32, .int (nI k), .ref 28], MW (upA (upA A 32 g) 36 h) B F sw, 0, 0)) 5 rfl ?_
          refine wp_iald rfl rfl (by omega) (by decide) ?_
          refine wp_eq (f' := (63, [.ref 28, .int (nI w), .int (nI k)], [.int (g k), .int (nI k), .ref 28], MW (upA (upA A 32 g) 36 h) B F sw, 0, 0)) rfl ?_
          rw [hgk]
          refine wp_call rfl rfl rfl (ev_up (ev_stands (A := upA (upA A 32 g) 36 h) hM (r := r) (many := k) (by omega) (fun j hj => ⟨hpre j hj, hrn j hj⟩) (v := v) (by omega)) (by decide)) ?_
          refine wp_eq (f' := (66, [.ref 28, .int (nI w), .int (nI k)], [.int (bI (stN r k v))], MW (upA (upA A 32 g) 36 h) B F sw, 0, 0)) rfl ?_
          refine wp_go (f' := ((if ¬ (bI (stN r k v)) = 0 then 80 else 69), [.ref 28, .int (nI w), .int (nI k)], [], MW (upA (upA A 32 g) 36 h) B F sw, 0, 0)) 1 rfl ?_
          refine wp_ite (fun h9 => absurd h9 (fun h8 => h8 (bI_f hst))) (fun _ => ?_)
          refine wp_go (f' := (73, [.ref 28, .int (nI w), .int (nI k)], [.int ((nI k) + (nI 1)), .ref 28], MW (upA (upA A 32 g) 36 h) B F sw, 0, 0)) 4 rfl ?_
          rw [nI_add]
          refine wp_go (f' := (74, [.ref 28, .int (nI w), .int (nI k)], [.int (nI w), .int (nI (k + 1)), .ref 28], MW (upA (upA A 32 g) 36 h) B F sw, 0, 0)) 1 rfl ?_
          refine wp_call rfl rfl rfl (ev_up (ev_isBand (A := upA (upA A 32 g) 36 h) hM (r := (upN r k v)) (many := k + 1) (by omega) hpre2 (width := w) hw) (by decide)) ?_
          refine wp_eq (f' := (77, [.ref 28, .int (nI w), .int (nI k)], [.int (bI (isBN n nb (upN r k v) (k + 1) w))], MW (upA (upA A 32 g) 36 (plA n (upN r k v) (k + 1) h)) B F sw, 0, 0)) rfl ?_
          refine wp_go (f' := ((if ¬ (bI (isBN n nb (upN r k v) (k + 1) w)) = 0 then 93 else 80), [.ref 28, .int (nI w), .int (nI k)], [], MW (upA (upA A 32 g) 36 (plA n (upN r k v) (k + 1) h)) B F sw, 0, 0)) 1 rfl ?_
          refine wp_ite (fun h9 => absurd h9 (fun h8 => h8 (bI_f hbd))) (fun _ => ?_)
          refine wp_go (f' := (86, [.ref 28, .int (nI w), .int (nI k)], [.int (nI k), .ref 32, .int (nI k), .ref 32], MW (upA (upA A 32 g) 36 (plA n (upN r k v) (k + 1) h)) B F sw, 0, 0)) 4 rfl ?_
          refine wp_iald rfl rfl (by omega) (by decide) ?_
          refine wp_eq (f' := (87, [.ref 28, .int (nI w), .int (nI k)], [.int (g k), .int (nI k), .ref 32], MW (upA (upA A 32 g) 36 (plA n (upN r k v) (k + 1) h)) B F sw, 0, 0)) rfl ?_
          rw [hgk]
          refine wp_go (f' := (89, [.ref 28, .int (nI w), .int (nI k)], [.int ((nI v) + (nI 1)), .int (nI k), .ref 32], MW (upA (upA A 32 g) 36 (plA n (upN r k v) (k + 1) h)) B F sw, 0, 0)) 2 rfl ?_
          rw [nI_add]
          refine wp_iast rfl rfl (by omega) (by decide) ?_
          refine wp_eq (f' := (90, [.ref 28, .int (nI w), .int (nI k)], [], MW (upA (upA A 36 (plA n (upN r k v) (k + 1) h)) 32 (upd g k (nI (v + 1)))) B F sw, 0, 0)) rfl ?_
          refine wp_go (f' := (42, [.ref 28, .int (nI w), .int (nI k)], [], MW (upA (upA A 36 (plA n (upN r k v) (k + 1) h)) 32 (upd g k (nI (v + 1)))) B F sw, 0, 0)) 1 rfl ?_
          exact hW
        | true =>
          have hok : bsK n nb w k r v = true := by unfold bsK; rw [hst, hbd]; rfl
          have hback : ∀ (g' h' : Nat → Int32), bsF n nb w (f + 1) (k + 1) (upN r k v) = none → (∀ j, j < k + 1 → g' j = nI ((upN r k v) j)) → ∃ g32 g36 : Nat → Int32, (∀ j, j < n → g32 j = nI (x0 j)) ∧ mv_Wp xs Ls 3 6 false (some .int) mv_c108 (20, [.ref 28, .int (nI w), .int ((nI (k + 1)) + (-1))], [], MW (upA (upA A 32 g') 36 h') B F sw, 0, 0) (some (.int (nI w0)), MW (upA (upA A 32 g32) 36 g36) B F sw, 0, 0) := by
            intro g' h' hx hg
            rw [bsV_none hok hx] at hs hnn
            rw [pk_m1]
            have hgk2 : g' k = nI v := by have h5 := hg k (by omega); unfold upN at h5; rw [if_pos rfl] at h5; exact h5
            have hgp : ∀ j, j < k → g' j = nI (r j) := fun j hj => by have h5 := hg j (by omega); unfold upN at h5; rw [if_neg (by omega)] at h5; exact h5
            obtain ⟨g32, g36, hP, hW⟩ := ihm (v + 1) (upd g' k (nI (v + 1))) h' (by omega) (hprev g' hgp) pk_us hs hnn
            refine ⟨g32, g36, hP, ?_⟩
            refine wp_go (f' := ((if (nI k) < 0 then 133 else 24), [.ref 28, .int (nI w), .int (nI k)], [], MW (upA (upA A 32 g') 36 h') B F sw, 0, 0)) 2 rfl ?_
            refine wp_ite (fun h9 => absurd h9 (nI_pos (n := k) (by omega))) (fun _ => ?_)
            refine wp_go (f' := (29, [.ref 28, .int (nI w), .int (nI k)], [.int (F 6), .int (nI k)], MW (upA (upA A 32 g') 36 h') B F sw, 0, 0)) 3 rfl ?_
            rw [hM.2.1]
            refine wp_go (f' := ((if (nI n) ≤ (nI k) then 133 else 32), [.ref 28, .int (nI w), .int (nI k)], [], MW (upA (upA A 32 g') 36 h') B F sw, 0, 0)) 1 rfl ?_
            refine wp_ite (fun h9 => absurd h9 (nI_ge (by omega) (by omega))) (fun _ => ?_)
            refine wp_go (f' := (38, [.ref 28, .int (nI w), .int (nI k)], [.int (nI k), .ref 32, .int (nI k), .ref 32], MW (upA (upA A 32 g') 36 h') B F sw, 0, 0)) 4 rfl ?_
            refine wp_iald rfl rfl (by omega) (by decide) ?_
            refine wp_eq (f' := (39, [.ref 28, .int (nI w), .int (nI k)], [.int (g' k), .int (nI k), .ref 32], MW (upA (upA A 32 g') 36 h') B F sw, 0, 0)) rfl ?_
            rw [hgk2]
            refine wp_go (f' := (41, [.ref 28, .int (nI w), .int (nI k)], [.int ((nI v) + (nI 1)), .int (nI k), .ref 32], MW (upA (upA A 32 g') 36 h') B F sw, 0, 0)) 2 rfl ?_
            rw [nI_add]
            refine wp_iast rfl rfl (by omega) (by decide) ?_
            refine wp_eq (f' := (42, [.ref 28, .int (nI w), .int (nI k)], [], MW (upA (upA A 36 h') 32 (upd g' k (nI (v + 1)))) B F sw, 0, 0)) rfl ?_
            exact hW
          obtain ⟨g32, g36, hP, hW⟩ := ihf (k + 1) (upN r k v) (by omega) (fun j hj => (hpre2 j hj).2) n 0 (upd (upd g (k + 1) (-1)) (k + 1) (nI 0)) (plA n (upN r k v) (k + 1) h) (by omega) (fun j hj => by rw [pk_un (by omega), pk_un (by omega)]; exact (hpre2 j hj).1) pk_us (fun x g' h' hx hg => hs x g' h' (bsV_some hok hx) hg) hback
          refine ⟨g32, g36, hP, ?_⟩
          refine wp_go (f' := (47, [.ref 28, .int (nI w), .int (nI k)], [.int (nI k), .ref 32], MW (upA (upA A 32 g) 36 h) B F sw, 0, 0)) 3 rfl ?_
          refine wp_iald rfl rfl (by omega) (by decide) ?_
          refine wp_eq (f' := (48, [.ref 28, .int (nI w), .int (nI k)], [.int (g k)], MW (upA (upA A 32 g) 36 h) B F sw, 0, 0)) rfl ?_
          rw [hgk]
          refine wp_go (f' := (52, [.ref 28, .int (nI w), .int (nI k)], [.int (F 6), .int (nI v)], MW (upA (upA A 32 g) 36 h) B F sw, 0, 0)) 2 rfl ?_
          rw [hM.2.1]
          refine wp_go (f' := ((if (nI n) ≤ (nI v) then 93 else 55), [.ref 28, .int (nI w), .int (nI k)], [], MW (upA (upA A 32 g) 36 h) B F sw, 0, 0)) 1 rfl ?_
          refine wp_ite (fun h9 => absurd h9 (nI_ge (by omega) (by omega))) (fun _ => ?_)
          refine wp_go (f' := (62, [.ref 28, .int (nI w), .int (nI k)], [.int (nI k), .ref 32, .int (nI k), .ref 28], MW (upA (upA A 32 g) 36 h) B F sw, 0, 0)) 5 rfl ?_
          refine wp_iald rfl rfl (by omega) (by decide) ?_
          refine wp_eq (f' := (63, [.ref 28, .int (nI w), .int (nI k)], [.int (g k), .int (nI k), .ref 28], MW (upA (upA A 32 g) 36 h) B F sw, 0, 0)) rfl ?_
          rw [hgk]
          refine wp_call rfl rfl rfl (ev_up (ev_stands (A := upA (upA A 32 g) 36 h) hM (r := r) (many := k) (by omega) (fun j hj => ⟨hpre j hj, hrn j hj⟩) (v := v) (by omega)) (by decide)) ?_
          refine wp_eq (f' := (66, [.ref 28, .int (nI w), .int (nI k)], [.int (bI (stN r k v))], MW (upA (upA A 32 g) 36 h) B F sw, 0, 0)) rfl ?_
          refine wp_go (f' := ((if ¬ (bI (stN r k v)) = 0 then 80 else 69), [.ref 28, .int (nI w), .int (nI k)], [], MW (upA (upA A 32 g) 36 h) B F sw, 0, 0)) 1 rfl ?_
          refine wp_ite (fun h9 => absurd h9 (fun h8 => h8 (bI_f hst))) (fun _ => ?_)
          refine wp_go (f' := (73, [.ref 28, .int (nI w), .int (nI k)], [.int ((nI k) + (nI 1)), .ref 28], MW (upA (upA A 32 g) 36 h) B F sw, 0, 0)) 4 rfl ?_
          rw [nI_add]
          refine wp_go (f' := (74, [.ref 28, .int (nI w), .int (nI k)], [.int (nI w), .int (nI (k + 1)), .ref 28], MW (upA (upA A 32 g) 36 h) B F sw, 0, 0)) 1 rfl ?_
          refine wp_call rfl rfl rfl (ev_up (ev_isBand (A := upA (upA A 32 g) 36 h) hM (r := (upN r k v)) (many := k + 1) (by omega) hpre2 (width := w) hw) (by decide)) ?_
          refine wp_eq (f' := (77, [.ref 28, .int (nI w), .int (nI k)], [.int (bI (isBN n nb (upN r k v) (k + 1) w))], MW (upA (upA A 32 g) 36 (plA n (upN r k v) (k + 1) h)) B F sw, 0, 0)) rfl ?_
          refine wp_go (f' := ((if ¬ (bI (isBN n nb (upN r k v) (k + 1) w)) = 0 then 93 else 80), [.ref 28, .int (nI w), .int (nI k)], [], MW (upA (upA A 32 g) 36 (plA n (upN r k v) (k + 1) h)) B F sw, 0, 0)) 1 rfl ?_
          refine wp_ite (fun _ => ?_) (fun h9 => absurd (by rw [hbd]; decide) h9)
          refine wp_go (f' := (98, [.ref 28, .int (nI w), .int (nI k)], [.int (nI k), .ref 32], MW (upA (upA A 32 g) 36 (plA n (upN r k v) (k + 1) h)) B F sw, 0, 0)) 3 rfl ?_
          refine wp_iald rfl rfl (by omega) (by decide) ?_
          refine wp_eq (f' := (99, [.ref 28, .int (nI w), .int (nI k)], [.int (g k)], MW (upA (upA A 32 g) 36 (plA n (upN r k v) (k + 1) h)) B F sw, 0, 0)) rfl ?_
          rw [hgk]
          refine wp_go (f' := (103, [.ref 28, .int (nI w), .int (nI k)], [.int (F 6), .int (nI v)], MW (upA (upA A 32 g) 36 (plA n (upN r k v) (k + 1) h)) B F sw, 0, 0)) 2 rfl ?_
          rw [hM.2.1]
          refine wp_go (f' := ((if (nI v) < (nI n) then 112 else 106), [.ref 28, .int (nI w), .int (nI k)], [], MW (upA (upA A 32 g) 36 (plA n (upN r k v) (k + 1) h)) B F sw, 0, 0)) 1 rfl ?_
          refine wp_ite (fun _ => ?_) (fun h9 => absurd (nI_lt (by omega) (by omega)) h9)
          refine wp_go (f' := (115, [.ref 28, .int (nI w), .int ((nI k) + 1)], [], MW (upA (upA A 32 g) 36 (plA n (upN r k v) (k + 1) h)) B F sw, 0, 0)) 1 rfl ?_
          rw [nI_1]
          refine wp_go (f' := (120, [.ref 28, .int (nI w), .int (nI (k + 1))], [.int (F 6), .int (nI (k + 1))], MW (upA (upA A 32 g) 36 (plA n (upN r k v) (k + 1) h)) B F sw, 0, 0)) 3 rfl ?_
          rw [hM.2.1]
          refine wp_go (f' := ((if (nI n) ≤ (nI (k + 1)) then 20 else 123), [.ref 28, .int (nI w), .int (nI (k + 1))], [], MW (upA (upA A 32 g) 36 (plA n (upN r k v) (k + 1) h)) B F sw, 0, 0)) 1 rfl ?_
          refine wp_ite (fun h9 => absurd h9 (nI_ge (by omega) (by omega))) (fun _ => ?_)
          refine wp_go (f' := (129, [.ref 28, .int (nI w), .int (nI (k + 1))], [.int (-1), .int (nI (k + 1)), .ref 32], MW (upA (upA A 32 g) 36 (plA n (upN r k v) (k + 1) h)) B F sw, 0, 0)) 4 rfl ?_
          refine wp_iast rfl rfl (by omega) (by decide) ?_
          refine wp_eq (f' := (130, [.ref 28, .int (nI w), .int (nI (k + 1))], [], MW (upA (upA A 36 (plA n (upN r k v) (k + 1) h)) 32 (upd g (k + 1) (-1))) B F sw, 0, 0)) rfl ?_
          refine wp_go (f' := ((if (nI (k + 1)) < 0 then 133 else 24), [.ref 28, .int (nI w), .int (nI (k + 1))], [], MW (upA (upA A 36 (plA n (upN r k v) (k + 1) h)) 32 (upd g (k + 1) (-1))) B F sw, 0, 0)) 3 rfl ?_
          refine wp_ite (fun h9 => absurd h9 (nI_pos (n := k + 1) (by omega))) (fun _ => ?_)
          refine wp_go (f' := (29, [.ref 28, .int (nI w), .int (nI (k + 1))], [.int (F 6), .int (nI (k + 1))], MW (upA (upA A 36 (plA n (upN r k v) (k + 1) h)) 32 (upd g (k + 1) (-1))) B F sw, 0, 0)) 3 rfl ?_
          rw [hM.2.1]
          refine wp_go (f' := ((if (nI n) ≤ (nI (k + 1)) then 133 else 32), [.ref 28, .int (nI w), .int (nI (k + 1))], [], MW (upA (upA A 36 (plA n (upN r k v) (k + 1) h)) 32 (upd g (k + 1) (-1))) B F sw, 0, 0)) 1 rfl ?_
          refine wp_ite (fun h9 => absurd h9 (nI_ge (by omega) (by omega))) (fun _ => ?_)
          refine wp_go (f' := (38, [.ref 28, .int (nI w), .int (nI (k + 1))], [.int (nI (k + 1)), .ref 32, .int (nI (k + 1)), .ref 32], MW (upA (upA A 36 (plA n (upN r k v) (k + 1) h)) 32 (upd g (k + 1) (-1))) B F sw, 0, 0)) 4 rfl ?_
          refine wp_iald rfl rfl (by omega) (by decide) ?_
          refine wp_eq (f' := (39, [.ref 28, .int (nI w), .int (nI (k + 1))], [.int ((upd g (k + 1) (-1)) (k + 1)), .int (nI (k + 1)), .ref 32], MW (upA (upA A 36 (plA n (upN r k v) (k + 1) h)) 32 (upd g (k + 1) (-1))) B F sw, 0, 0)) rfl ?_
          rw [pk_us]
          refine wp_go (f' := (41, [.ref 28, .int (nI w), .int (nI (k + 1))], [.int ((-1) + (nI 1)), .int (nI (k + 1)), .ref 32], MW (upA (upA A 36 (plA n (upN r k v) (k + 1) h)) 32 (upd g (k + 1) (-1))) B F sw, 0, 0)) 2 rfl ?_
          rw [(by decide : (-1 : Int32) + nI 1 = nI 0)]
          refine wp_iast rfl rfl (by omega) (by decide) ?_
          refine wp_eq (f' := (42, [.ref 28, .int (nI w), .int (nI (k + 1))], [], MW (upA (upA A 36 (plA n (upN r k v) (k + 1) h)) 32 (upd (upd g (k + 1) (-1)) (k + 1) (nI 0))) B F sw, 0, 0)) rfl ?_
          exact hW
theorem ev_layBandM (hM : MI A F n nb) (hn1 : 1 ≤ n) {w0 : Nat} (hw0 : w0 ≤ 50) {x0 : Nat → Nat} (h0 : bsF n nb w0 n 0 (fun _ => 0) = some x0) (hlt : ∀ w, w < w0 → bsF n nb w n 0 (fun _ => 0) = none) : ∃ g32 g36 : Nat → Int32, (∀ j, j < n → g32 j = nI (x0 j)) ∧ mv_Ev xs Ls 4 108 [.ref 28] (MW A B F sw) (some (.int (nI w0)), MW (upA (upA A 32 g32) 36 g36) B F sw, 0, 0) := by
  have hn := hM.1
  have hp := pow10 hn
  have hp1 : 1 ≤ 2 ^ n := Nat.one_le_two_pow
  have hal := all_lt hn
  have hmain : ∀ (d w : Nat), w + d = w0 → ∀ (g h : Nat → Int32) (e2 : Value), ∃ g32 g36 : Nat → Int32, (∀ j, j < n → g32 j = nI (x0 j)) ∧ mv_Wp xs Ls 3 6 false (some .int) mv_c108 (11, [.ref 28, .int (nI w), e2], [], MW (upA (upA A 32 g) 36 h) B F sw, 0, 0) (some (.int (nI w0)), MW (upA (upA A 32 g32) 36 g36) B F sw, 0, 0) := by
    intro d
    induction d with
    | zero =>
      intro w hwd g h e2
      have hww : w = w0 := by omega
      subst hww
      obtain ⟨f, hf⟩ : ∃ f, n = f + 1 := ⟨n - 1, by omega⟩
      have hsome : ∀ (x : Nat → Nat) (g' h' : Nat → Int32), bsF n nb w (f + 1) 0 (fun _ => 0) = some x → (∀ j, j < n → g' j = nI (x j)) → ∃ g32 g36 : Nat → Int32, (∀ j, j < n → g32 j = nI (x0 j)) ∧ mv_Wp xs Ls 3 6 false (some .int) mv_c108 (20, [.ref 28, .int (nI w), .int (nI n)], [], MW (upA (upA A 32 g') 36 h') B F sw, 0, 0) (some (.int (nI w)), MW (upA (upA A 32 g32) 36 g36) B F sw, 0, 0) := by
        intro x g' h' hx hg
        have hx2 : bsF n nb w n 0 (fun _ => 0) = some x := by rw [show bsF n nb w n 0 (fun _ => 0) = bsF n nb w (f + 1) 0 (fun _ => 0) by rw [← hf]]; exact hx
        rw [h0] at hx2
        cases hx2
        refine ⟨g', h', hg, ?_⟩
        refine wp_go (f' := ((if (nI n) < 0 then 133 else 24), [.ref 28, .int (nI w), .int (nI n)], [], MW (upA (upA A 32 g') 36 h') B F sw, 0, 0)) 2 rfl ?_
        refine wp_ite (fun h9 => absurd h9 (nI_pos (n := n) (by omega))) (fun _ => ?_)
        refine wp_go (f' := (29, [.ref 28, .int (nI w), .int (nI n)], [.int (F 6), .int (nI n)], MW (upA (upA A 32 g') 36 h') B F sw, 0, 0)) 3 rfl ?_
        rw [hM.2.1]
        refine wp_go (f' := ((if (nI n) ≤ (nI n) then 133 else 32), [.ref 28, .int (nI w), .int (nI n)], [], MW (upA (upA A 32 g') 36 h') B F sw, 0, 0)) 1 rfl ?_
        refine wp_ite (fun _ => ?_) (fun h9 => absurd (nI_le (Nat.le_refl _) (by omega)) h9)
        refine wp_go (f' := (138, [.ref 28, .int (nI w), .int (nI n)], [.int (F 6), .int (nI n)], MW (upA (upA A 32 g') 36 h') B F sw, 0, 0)) 3 rfl ?_
        rw [hM.2.1]
        refine wp_go (f' := ((if ¬ (nI n) = (nI n) then 143 else 141), [.ref 28, .int (nI w), .int (nI n)], [], MW (upA (upA A 32 g') 36 h') B F sw, 0, 0)) 1 rfl ?_
        refine wp_ite (fun h9 => absurd h9 (fun h8 => h8 rfl)) (fun _ => ?_)
        refine wp_go (f' := (142, [.ref 28, .int (nI w), .int (nI n)], [.int (nI w)], MW (upA (upA A 32 g') 36 h') B F sw, 0, 0)) 1 rfl ?_
        exact wp_iret rfl
      have hnone : ∀ (g' h' : Nat → Int32), bsF n nb w (f + 1) 0 (fun _ => 0) = none → (∀ j, j < 0 → g' j = nI ((fun _ => 0) j)) → ∃ g32 g36 : Nat → Int32, (∀ j, j < n → g32 j = nI (x0 j)) ∧ mv_Wp xs Ls 3 6 false (some .int) mv_c108 (20, [.ref 28, .int (nI w), .int ((nI 0) + (-1))], [], MW (upA (upA A 32 g') 36 h') B F sw, 0, 0) (some (.int (nI w)), MW (upA (upA A 32 g32) 36 g36) B F sw, 0, 0) := by
        intro g' h' hx hg
        have hx2 : bsF n nb w n 0 (fun _ => 0) = none := by rw [show bsF n nb w n 0 (fun _ => 0) = bsF n nb w (f + 1) 0 (fun _ => 0) by rw [← hf]]; exact hx
        rw [h0] at hx2
        cases hx2
      obtain ⟨g32, g36, hP, hW⟩ := lp_bs (xs := xs) (Ls := Ls) (B := B) (sw := sw) hM (w := w) (w0 := w) (by omega) (x0 := x0) f 0 (fun _ => 0) (by omega) (fun j hj => absurd hj (Nat.not_lt_zero _)) n 0 (upd (upd g 0 (-1)) 0 (nI 0)) h (by omega) (fun j hj => absurd hj (Nat.not_lt_zero _)) pk_us hsome hnone
      refine ⟨g32, g36, hP, ?_⟩
      refine wp_go (f' := (19, [.ref 28, .int (nI w), .int (nI 0)], [.int (-1), .int (nI 0), .ref 32], MW (upA (upA A 32 g) 36 h) B F sw, 0, 0)) 6 rfl ?_
      refine wp_iast rfl rfl (by omega) (by decide) ?_
      refine wp_eq (f' := (20, [.ref 28, .int (nI w), .int (nI 0)], [], MW (upA (upA A 36 h) 32 (upd g 0 (-1))) B F sw, 0, 0)) rfl ?_
      refine wp_go (f' := ((if (nI 0) < 0 then 133 else 24), [.ref 28, .int (nI w), .int (nI 0)], [], MW (upA (upA A 36 h) 32 (upd g 0 (-1))) B F sw, 0, 0)) 2 rfl ?_
      refine wp_ite (fun h9 => absurd h9 (by decide)) (fun _ => ?_)
      refine wp_go (f' := (29, [.ref 28, .int (nI w), .int (nI 0)], [.int (F 6), .int (nI 0)], MW (upA (upA A 36 h) 32 (upd g 0 (-1))) B F sw, 0, 0)) 3 rfl ?_
      rw [hM.2.1]
      refine wp_go (f' := ((if (nI n) ≤ (nI 0) then 133 else 32), [.ref 28, .int (nI w), .int (nI 0)], [], MW (upA (upA A 36 h) 32 (upd g 0 (-1))) B F sw, 0, 0)) 1 rfl ?_
      refine wp_ite (fun h9 => absurd h9 (nI_ge (a := 0) (b := n) (by omega) (by omega))) (fun _ => ?_)
      refine wp_go (f' := (38, [.ref 28, .int (nI w), .int (nI 0)], [.int (nI 0), .ref 32, .int (nI 0), .ref 32], MW (upA (upA A 36 h) 32 (upd g 0 (-1))) B F sw, 0, 0)) 4 rfl ?_
      refine wp_iald rfl rfl (by omega) (by decide) ?_
      refine wp_eq (f' := (39, [.ref 28, .int (nI w), .int (nI 0)], [.int ((upd g 0 (-1)) 0), .int (nI 0), .ref 32], MW (upA (upA A 36 h) 32 (upd g 0 (-1))) B F sw, 0, 0)) rfl ?_
      rw [pk_us]
      refine wp_go (f' := (41, [.ref 28, .int (nI w), .int (nI 0)], [.int ((-1) + (nI 1)), .int (nI 0), .ref 32], MW (upA (upA A 36 h) 32 (upd g 0 (-1))) B F sw, 0, 0)) 2 rfl ?_
      rw [(by decide : (-1 : Int32) + nI 1 = nI 0)]
      refine wp_iast rfl rfl (by omega) (by decide) ?_
      refine wp_eq (f' := (42, [.ref 28, .int (nI w), .int (nI 0)], [], MW (upA (upA A 36 h) 32 (upd (upd g 0 (-1)) 0 (nI 0))) B F sw, 0, 0)) rfl ?_
      exact hW
    | succ d ihd =>
      intro w hwd g h e2
      obtain ⟨f, hf⟩ : ∃ f, n = f + 1 := ⟨n - 1, by omega⟩
      have hsome : ∀ (x : Nat → Nat) (g' h' : Nat → Int32), bsF n nb w (f + 1) 0 (fun _ => 0) = some x → (∀ j, j < n → g' j = nI (x j)) → ∃ g32 g36 : Nat → Int32, (∀ j, j < n → g32 j = nI (x0 j)) ∧ mv_Wp xs Ls 3 6 false (some .int) mv_c108 (20, [.ref 28, .int (nI w), .int (nI n)], [], MW (upA (upA A 32 g') 36 h') B F sw, 0, 0) (some (.int (nI w0)), MW (upA (upA A 32 g32) 36 g36) B F sw, 0, 0) := by
        intro x g' h' hx hg
        have hx2 : bsF n nb w n 0 (fun _ => 0) = some x := by rw [show bsF n nb w n 0 (fun _ => 0) = bsF n nb w (f + 1) 0 (fun _ => 0) by rw [← hf]]; exact hx
        rw [hlt w (by omega)] at hx2
        cases hx2
      have hnone : ∀ (g' h' : Nat → Int32), bsF n nb w (f + 1) 0 (fun _ => 0) = none → (∀ j, j < 0 → g' j = nI ((fun _ => 0) j)) → ∃ g32 g36 : Nat → Int32, (∀ j, j < n → g32 j = nI (x0 j)) ∧ mv_Wp xs Ls 3 6 false (some .int) mv_c108 (20, [.ref 28, .int (nI w), .int ((nI 0) + (-1))], [], MW (upA (upA A 32 g') 36 h') B F sw, 0, 0) (some (.int (nI w0)), MW (upA (upA A 32 g32) 36 g36) B F sw, 0, 0) := by
        intro g' h' hx hg
        have hx2 : bsF n nb w n 0 (fun _ => 0) = none := by rw [show bsF n nb w n 0 (fun _ => 0) = bsF n nb w (f + 1) 0 (fun _ => 0) by rw [← hf]]; exact hx
        rw [show nI 0 + (-1) = (-1 : Int32) by decide]
        obtain ⟨g32, g36, hP, hW⟩ := ihd (w + 1) (by omega) g' h' (.int (-1))
        refine ⟨g32, g36, hP, ?_⟩
        refine wp_go (f' := ((if (-1) < 0 then 133 else 24), [.ref 28, .int (nI w), .int (-1)], [], MW (upA (upA A 32 g') 36 h') B F sw, 0, 0)) 2 rfl ?_
        refine wp_ite (fun _ => ?_) (fun h9 => absurd (by decide) h9)
        refine wp_go (f' := (138, [.ref 28, .int (nI w), .int (-1)], [.int (F 6), .int (-1)], MW (upA (upA A 32 g') 36 h') B F sw, 0, 0)) 3 rfl ?_
        rw [hM.2.1]
        refine wp_go (f' := ((if ¬ (-1) = (nI n) then 143 else 141), [.ref 28, .int (nI w), .int (-1)], [], MW (upA (upA A 32 g') 36 h') B F sw, 0, 0)) 1 rfl ?_
        refine wp_ite (fun _ => ?_) (fun h9 => absurd (fun h8 => nI_n1 (t := n) (by omega) h8.symm) h9)
        refine wp_go (f' := (146, [.ref 28, .int ((nI w) + 1), .int (-1)], [], MW (upA (upA A 32 g') 36 h') B F sw, 0, 0)) 1 rfl ?_
        rw [nI_1]
        refine wp_go (f' := (11, [.ref 28, .int (nI (w + 1)), .int (-1)], [], MW (upA (upA A 32 g') 36 h') B F sw, 0, 0)) 1 rfl ?_
        exact hW
      obtain ⟨g32, g36, hP, hW⟩ := lp_bs (xs := xs) (Ls := Ls) (B := B) (sw := sw) hM (w := w) (w0 := w0) (by omega) (x0 := x0) f 0 (fun _ => 0) (by omega) (fun j hj => absurd hj (Nat.not_lt_zero _)) n 0 (upd (upd g 0 (-1)) 0 (nI 0)) h (by omega) (fun j hj => absurd hj (Nat.not_lt_zero _)) pk_us hsome hnone
      refine ⟨g32, g36, hP, ?_⟩
      refine wp_go (f' := (19, [.ref 28, .int (nI w), .int (nI 0)], [.int (-1), .int (nI 0), .ref 32], MW (upA (upA A 32 g) 36 h) B F sw, 0, 0)) 6 rfl ?_
      refine wp_iast rfl rfl (by omega) (by decide) ?_
      refine wp_eq (f' := (20, [.ref 28, .int (nI w), .int (nI 0)], [], MW (upA (upA A 36 h) 32 (upd g 0 (-1))) B F sw, 0, 0)) rfl ?_
      refine wp_go (f' := ((if (nI 0) < 0 then 133 else 24), [.ref 28, .int (nI w), .int (nI 0)], [], MW (upA (upA A 36 h) 32 (upd g 0 (-1))) B F sw, 0, 0)) 2 rfl ?_
      refine wp_ite (fun h9 => absurd h9 (by decide)) (fun _ => ?_)
      refine wp_go (f' := (29, [.ref 28, .int (nI w), .int (nI 0)], [.int (F 6), .int (nI 0)], MW (upA (upA A 36 h) 32 (upd g 0 (-1))) B F sw, 0, 0)) 3 rfl ?_
      rw [hM.2.1]
      refine wp_go (f' := ((if (nI n) ≤ (nI 0) then 133 else 32), [.ref 28, .int (nI w), .int (nI 0)], [], MW (upA (upA A 36 h) 32 (upd g 0 (-1))) B F sw, 0, 0)) 1 rfl ?_
      refine wp_ite (fun h9 => absurd h9 (nI_ge (a := 0) (b := n) (by omega) (by omega))) (fun _ => ?_)
      refine wp_go (f' := (38, [.ref 28, .int (nI w), .int (nI 0)], [.int (nI 0), .ref 32, .int (nI 0), .ref 32], MW (upA (upA A 36 h) 32 (upd g 0 (-1))) B F sw, 0, 0)) 4 rfl ?_
      refine wp_iald rfl rfl (by omega) (by decide) ?_
      refine wp_eq (f' := (39, [.ref 28, .int (nI w), .int (nI 0)], [.int ((upd g 0 (-1)) 0), .int (nI 0), .ref 32], MW (upA (upA A 36 h) 32 (upd g 0 (-1))) B F sw, 0, 0)) rfl ?_
      rw [pk_us]
      refine wp_go (f' := (41, [.ref 28, .int (nI w), .int (nI 0)], [.int ((-1) + (nI 1)), .int (nI 0), .ref 32], MW (upA (upA A 36 h) 32 (upd g 0 (-1))) B F sw, 0, 0)) 2 rfl ?_
      rw [(by decide : (-1 : Int32) + nI 1 = nI 0)]
      refine wp_iast rfl rfl (by omega) (by decide) ?_
      refine wp_eq (f' := (42, [.ref 28, .int (nI w), .int (nI 0)], [], MW (upA (upA A 36 h) 32 (upd (upd g 0 (-1)) 0 (nI 0))) B F sw, 0, 0)) rfl ?_
      exact hW
  obtain ⟨g32, g36, hP, hW⟩ := hmain w0 0 (by omega) (A 32) (A 36) (.retAddr 0)
  refine ⟨g32, g36, hP, ?_⟩
  refine ev_of_wp rfl rfl rfl ?_
  refine wp_go (f' := (4, [.ref 28, .retAddr 0, .retAddr 0], [.int (F 6)], MW A B F sw, 0, 0)) 2 rfl ?_
  rw [hM.2.1]
  refine wp_go (f' := ((if ¬ (nI n) = 0 then 9 else 7), [.ref 28, .retAddr 0, .retAddr 0], [], MW A B F sw, 0, 0)) 1 rfl ?_
  refine wp_ite (fun _ => ?_) (fun h9 => absurd (fun h8 => by have h9 := (nI_eq (a := n) (b := 0) (by omega) (by omega)).mp h8; omega) h9)
  refine wp_go (f' := (11, [.ref 28, .int (nI 0), .retAddr 0], [], MW A B F sw, 0, 0)) 2 rfl ?_
  exact hW
theorem ev_layBandM0 (hM : MI A F n nb) (h0 : n = 0) : mv_Ev xs Ls 4 108 [.ref 28] (MW A B F sw) (some (.int (nI 0)), MW A B F sw, 0, 0) := by
  refine ev_of_wp rfl rfl rfl ?_
  refine wp_go (f' := (4, [.ref 28, .retAddr 0, .retAddr 0], [.int (F 6)], MW A B F sw, 0, 0)) 2 rfl ?_
  rw [hM.2.1]
  refine wp_go (f' := ((if ¬ (nI n) = 0 then 9 else 7), [.ref 28, .retAddr 0, .retAddr 0], [], MW A B F sw, 0, 0)) 1 rfl ?_
  refine wp_ite (fun h9 => absurd h9 (fun h8 => h8 (congrArg nI h0))) (fun _ => ?_)
  refine wp_go (f' := (8, [.ref 28, .retAddr 0, .retAddr 0], [.int (nI 0)], MW A B F sw, 0, 0)) 1 rfl ?_
  exact wp_iret rfl
end MM
