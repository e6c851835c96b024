theorem firstV_all {p : Nat → Bool} : ∀ (f v : Nat), firstV p f v ≤ v + f ∧ v ≤ firstV p f v ∧ (firstV p f v < v + f → p (firstV p f v) = true) ∧ ∀ w, v ≤ w → w < firstV p f v → p w = false
  | 0, v => ⟨Nat.le_refl _, Nat.le_refl _, fun h => absurd h (Nat.lt_irrefl _), fun w h1 h2 => absurd (Nat.lt_of_le_of_lt h1 h2) (Nat.lt_irrefl _)⟩
  | f + 1, v => by
    unfold firstV
    by_cases hv : p v = true
    · rw [if_pos hv]
      exact ⟨by omega, Nat.le_refl _, fun _ => hv, fun w h1 h2 => by omega⟩
    · rw [if_neg hv]
      obtain ⟨a, b, c, d⟩ := firstV_all (p := p) f (v + 1)
      refine ⟨by omega, by omega, fun h => c (by omega), fun w h1 h2 => ?_⟩
      by_cases e : w = v
      · rw [e]; exact Bool.eq_false_iff.mpr hv
      · exact d w (by omega) h2
/-- the class's next vertex by height -/
def hpkN (n : Nat) (nb : Nat → Nat) (goal s : Nat) (h : Nat → Nat) : Nat := firstV (hokN n nb goal s h) (n - 1) 0
/-- one place of the least order by height: those ahead, their heights, the row -/
def hayS (n : Nat) (nb : Nat → Nat) (goal : Nat) : Nat → (Nat × (Nat → Nat) × (Nat → Int32)) → (Nat × (Nat → Nat) × (Nat → Int32)) := fun k q => (q.1 ||| 2 ^ hpkN n nb goal q.1 q.2.1, upN q.2.1 (hpkN n nb goal q.1 q.2.1) (1 + hbN n nb q.1 q.2.1 (hpkN n nb goal q.1 q.2.1)), upd q.2.2 k (nI (hpkN n nb goal q.1 q.2.1)))
/-- the class's least height -/
def hgoN (n : Nat) (nb : Nat → Nat) : Nat := hleN n nb 0 (fun _ => 0)
def hayN (n : Nat) (nb : Nat → Nat) (g : Nat → Int32) : Nat × (Nat → Nat) × (Nat → Int32) := forN (hayS n nb (hgoN n nb)) n (0, (fun _ => 0), g)
theorem hb_le {n : Nat} (hn : n ≤ 10) {nb : Nat → Nat} {s v K : Nat} (hs : s < 1024) {h : Nat → Nat} (hK : ∀ u, u < 10 → s.testBit u = true → h u ≤ K) : hbN n nb s h v ≤ K := tall_le (fun u hu hb => hK u (by omega) (tch_sub hs u hb))
theorem hle_le {n : Nat} {nb : Nat → Nat} {s : Nat} {h : Nat → Nat} : hleN n nb s h ≤ 1001 := hl_le
theorem hag_self {s : Nat} {h : Nat → Nat} {v x : Nat} (hb : s.testBit v = false) : hagS s (upN h v x) h := by
  intro u hu hbu
  unfold upN
  by_cases e : u = v
  · rw [e, hb] at hbu; cases hbu
  · rw [if_neg e]
/-- what the heights of the class hold -/
def HI (A : Nat → Nat → Int32) (h : Nat → Nat) : Prop := (∀ v, v < 10 → A 19 v = nI (h v) ∧ h v ≤ 1000) ∧ (A 21 0 = nI 0 ∧ A 22 0 = nI 0)
theorem upd_up {g : Nat → Int32} {h : Nat → Nat} {v x : Nat} (hh : ∀ u, u < 10 → g u = nI (h u) ∧ h u ≤ 1000) (hx : x ≤ 1000) : ∀ u, u < 10 → upd g v (nI x) u = nI (upN h v x u) ∧ upN h v x u ≤ 1000 := by
  intro u hu
  unfold upN
  by_cases e : u = v
  · rw [e, pk_us, if_pos rfl]; exact ⟨rfl, hx⟩
  · rw [pk_un e, if_neg e]; exact hh u hu
section CC
variable {xs : Nat → Int32} {Ls : Nat} {A : Nat → Nat → Int32} {B : Nat → Nat → Int64} {F : Nat → Int32} {sw : Bool} {n : Nat} {nb : Nat → Nat}
theorem ev_hStays (hC : CI A F n nb) (hR : RI A n nb) {h : Nat → Nat} (hI : HI A h) {s v goal : Nat} (hs : s < 2 ^ n) (hv : v < n) (hK : ∀ u, u < 10 → s.testBit u = true → h u ≤ 10) (hgo : goal ≤ 1001) : ∃ (f18 f19 f20 f21 f22 : Nat → Int32) (h2 : Nat → Nat), HI (upA (upA (upA (upA (upA A 18 f18) 19 f19) 20 f20) 21 f21) 22 f22) h2 ∧ hagS s h2 h ∧ mv_Ev xs Ls 5 39 [.ref 17, .int (nI s), .int (nI v), .int (nI goal)] (MW A B F sw) (some (.int (bI (hokN n nb goal s h v))), MW (upA (upA (upA (upA (upA A 18 f18) 19 f19) 20 f20) 21 f21) 22 f22) B F sw, 0, 0) := by
  have hn := hC.1
  have hp := pow10 hn
  have hp1 : 1 ≤ 2 ^ n := Nat.one_le_two_pow
  have hal := all_lt hn
  have hbl := hb_le (v := v) (nb := nb) hn (by omega : s < 1024) hK
  have hwl := or_ltn hs hv
  cases hb : s.testBit v with
  | true =>
    refine ⟨A 18, A 19, A 20, A 21, A 22, h, hI, fun _ _ _ => rfl, ?_⟩
    rw [show hokN n nb goal s h v = false by unfold hokN; rw [hb]; rfl]
    refine ev_of_wp rfl rfl rfl ?_
    refine wp_go (f' := (5, [.ref 17, .int (nI s), .int (nI v), .int (nI goal)], [.int (((nI s) >>> ((nI v) &&& 31)) &&& (nI 1))], MW A B F sw, 0, 0)) 5 rfl ?_
    rw [bx_bit (by omega) (by omega)]
    refine wp_go (f' := ((if (bI (s.testBit v)) = 0 then 10 else 8), [.ref 17, .int (nI s), .int (nI v), .int (nI goal)], [], MW A B F sw, 0, 0)) 1 rfl ?_
    refine wp_ite (fun h9 => absurd h9 (by rw [hb]; decide)) (fun _ => ?_)
    refine wp_go (f' := (9, [.ref 17, .int (nI s), .int (nI v), .int (nI goal)], [.int (nI 0)], MW A B F sw, 0, 0)) 1 rfl ?_
    exact wp_zret rfl (by first | exact Or.inl rfl | exact Or.inr rfl)
  | false =>
    by_cases hg : 1 + hbN n nb s h v ≤ goal
    · have hhx := upd_up (v := v) (x := 1 + hbN n nb s h v) hI.1 (by omega)
      obtain ⟨f18, f20, f21, f22, hz, hev⟩ := ev_hLeast (xs := xs) (Ls := Ls) (B := B) (sw := sw) (A := upA A 19 (upd (A 19) v (nI (1 + (hbN n nb s h v))))) (F := F) hC hR (h := upN h v (1 + hbN n nb s h v)) hhx (s := s ||| 2 ^ v) hwl hI.2
      refine ⟨f18, (upd (A 19) v (nI (1 + (hbN n nb s h v)))), f20, f21, f22, upN h v (1 + hbN n nb s h v), ⟨hhx, hz⟩, hag_self hb, ?_⟩
      refine ev_of_wp rfl rfl rfl ?_
      refine wp_go (f' := (5, [.ref 17, .int (nI s), .int (nI v), .int (nI goal)], [.int (((nI s) >>> ((nI v) &&& 31)) &&& (nI 1))], MW A B F sw, 0, 0)) 5 rfl ?_
      rw [bx_bit (by omega) (by omega)]
      refine wp_go (f' := ((if (bI (s.testBit v)) = 0 then 10 else 8), [.ref 17, .int (nI s), .int (nI v), .int (nI goal)], [], MW A B F sw, 0, 0)) 1 rfl ?_
      refine wp_ite (fun _ => ?_) (fun h9 => absurd (bI_f hb) h9)
      refine wp_go (f' := (23, [.ref 17, .int (nI s), .int (nI v), .int (nI goal)], [.int (nI v), .int (nI s), .ref 1, .ref 17, .int (nI 1), .int (nI v), .ref 19], MW A B F sw, 0, 0)) 9 rfl ?_
      refine wp_call rfl rfl rfl (ev_up (ev_gTouched (A := A) (F := F) hC hR (s := s) (v := v) (by omega) (by omega)) (by decide)) ?_
      refine wp_eq (f' := (26, [.ref 17, .int (nI s), .int (nI v), .int (nI goal)], [.int (nI (tchN nb s v)), .ref 17, .int (nI 1), .int (nI v), .ref 19], MW A B F sw, 0, 0)) rfl ?_
      have htl := tch_lt (nb := nb) (v := v) hn (ahead := s) (by omega)
      refine wp_call rfl rfl rfl (ev_up (ev_hTall (A := A) (F := F) (nb := nb) hC (h := h) hI.1 (s := tchN nb s v) (by omega)) (by decide)) ?_
      refine wp_eq (f' := (29, [.ref 17, .int (nI s), .int (nI v), .int (nI goal)], [.int (nI (hbN n nb s h v)), .int (nI 1), .int (nI v), .ref 19], MW A B F sw, 0, 0)) rfl ?_
      refine wp_go (f' := (30, [.ref 17, .int (nI s), .int (nI v), .int (nI goal)], [.int ((nI 1) + (nI (hbN n nb s h v))), .int (nI v), .ref 19], MW A B F sw, 0, 0)) 1 rfl ?_
      rw [nI_add]
      refine wp_iast rfl rfl (by omega) (by decide) ?_
      refine wp_eq (f' := (31, [.ref 17, .int (nI s), .int (nI v), .int (nI goal)], [], MW (upA A 19 (upd (A 19) v (nI (1 + (hbN n nb s h v))))) B F sw, 0, 0)) rfl ?_
      refine wp_go (f' := (36, [.ref 17, .int (nI s), .int (nI v), .int (nI goal)], [.int (nI v), .ref 19], MW (upA A 19 (upd (A 19) v (nI (1 + (hbN n nb s h v))))) B F sw, 0, 0)) 3 rfl ?_
      refine wp_iald rfl rfl (by omega) (by decide) ?_
      refine wp_eq (f' := (37, [.ref 17, .int (nI s), .int (nI v), .int (nI goal)], [.int ((upd (A 19) v (nI (1 + (hbN n nb s h v)))) v)], MW (upA A 19 (upd (A 19) v (nI (1 + (hbN n nb s h v))))) B F sw, 0, 0)) rfl ?_
      rw [pk_us]
      refine wp_go (f' := ((if (nI goal) < (nI (1 + hbN n nb s h v)) then 58 else 41), [.ref 17, .int (nI s), .int (nI v), .int (nI goal)], [], MW (upA A 19 (upd (A 19) v (nI (1 + (hbN n nb s h v))))) B F sw, 0, 0)) 2 rfl ?_
      refine wp_ite (fun h9 => absurd h9 (nI_nlt (by omega) (by omega))) (fun _ => ?_)
      refine wp_go (f' := (46, [.ref 17, .int (nI s), .int (nI v), .int (nI goal)], [.int ((nI 1) <<< ((nI v) &&& 31)), .int (nI s), .ref 17], MW (upA A 19 (upd (A 19) v (nI (1 + (hbN n nb s h v))))) B F sw, 0, 0)) 5 rfl ?_
      rw [bx_one (by omega)]
      refine wp_go (f' := (47, [.ref 17, .int (nI s), .int (nI v), .int (nI goal)], [.int ((nI s) ||| (nI (2 ^ v))), .ref 17], MW (upA A 19 (upd (A 19) v (nI (1 + (hbN n nb s h v))))) B F sw, 0, 0)) 1 rfl ?_
      rw [bx_or]
      refine wp_call rfl rfl rfl (ev_up hev (by decide)) ?_
      refine wp_eq (f' := (50, [.ref 17, .int (nI s), .int (nI v), .int (nI goal)], [.int (nI (hleN n nb (s ||| 2 ^ v) (upN h v (1 + hbN n nb s h v))))], MW (upA (upA (upA (upA (upA A 18 f18) 19 (upd (A 19) v (nI (1 + (hbN n nb s h v))))) 20 f20) 21 f21) 22 f22) B F sw, 0, 0)) rfl ?_
      have hll := hle_le (n := n) (nb := nb) (s := s ||| 2 ^ v) (h := upN h v (1 + hbN n nb s h v))
      refine wp_go (f' := ((if (nI goal) < (nI (hleN n nb (s ||| 2 ^ v) (upN h v (1 + hbN n nb s h v)))) then 58 else 54), [.ref 17, .int (nI s), .int (nI v), .int (nI goal)], [], MW (upA (upA (upA (upA (upA A 18 f18) 19 (upd (A 19) v (nI (1 + (hbN n nb s h v))))) 20 f20) 21 f21) 22 f22) B F sw, 0, 0)) 2 rfl ?_
      refine wp_ite (fun h1 => ?_) (fun h1 => ?_)
      · have h1 : goal < hleN n nb (s ||| 2 ^ v) (upN h v (1 + hbN n nb s h v)) := (nI_ltI (a := goal) (b := hleN n nb (s ||| 2 ^ v) (upN h v (1 + hbN n nb s h v))) (by omega) (by omega)).mp h1
        refine wp_go (f' := (59, [.ref 17, .int (nI s), .int (nI v), .int (nI goal)], [.int (nI 0)], MW (upA (upA (upA (upA (upA A 18 f18) 19 (upd (A 19) v (nI (1 + (hbN n nb s h v))))) 20 f20) 21 f21) 22 f22) B F sw, 0, 0)) 1 rfl ?_
        rw [show hokN n nb goal s h v = false by unfold hokN; rw [hb, decide_eq_true hg, decide_eq_false (by omega)]; rfl]
        exact wp_zret rfl (by first | exact Or.inl rfl | exact Or.inr rfl)
      · have h1 : ¬ (goal < hleN n nb (s ||| 2 ^ v) (upN h v (1 + hbN n nb s h v))) := fun h9 => h1 ((nI_ltI (a := goal) (b := hleN n nb (s ||| 2 ^ v) (upN h v (1 + hbN n nb s h v))) (by omega) (by omega)).mpr h9)
        refine wp_go (f' := (59, [.ref 17, .int (nI s), .int (nI v), .int (nI goal)], [.int (nI 1)], MW (upA (upA (upA (upA (upA A 18 f18) 19 (upd (A 19) v (nI (1 + (hbN n nb s h v))))) 20 f20) 21 f21) 22 f22) B F sw, 0, 0)) 2 rfl ?_
        rw [show hokN n nb goal s h v = true by unfold hokN; rw [hb, decide_eq_true hg, decide_eq_true (by omega)]; rfl]
        exact wp_zret rfl (by first | exact Or.inl rfl | exact Or.inr rfl)
    · have hhx := upd_up (v := v) (x := 1 + hbN n nb s h v) hI.1 (by omega)
      refine ⟨A 18, (upd (A 19) v (nI (1 + (hbN n nb s h v)))), A 20, A 21, A 22, upN h v (1 + hbN n nb s h v), ⟨hhx, hI.2⟩, hag_self hb, ?_⟩
      rw [show hokN n nb goal s h v = false by unfold hokN; rw [hb, decide_eq_false hg]; rfl]
      refine ev_of_wp rfl rfl rfl ?_
      refine wp_go (f' := (5, [.ref 17, .int (nI s), .int (nI v), .int (nI goal)], [.int (((nI s) >>> ((nI v) &&& 31)) &&& (nI 1))], MW A B F sw, 0, 0)) 5 rfl ?_
      rw [bx_bit (by omega) (by omega)]
      refine wp_go (f' := ((if (bI (s.testBit v)) = 0 then 10 else 8), [.ref 17, .int (nI s), .int (nI v), .int (nI goal)], [], MW A B F sw, 0, 0)) 1 rfl ?_
      refine wp_ite (fun _ => ?_) (fun h9 => absurd (bI_f hb) h9)
      refine wp_go (f' := (23, [.ref 17, .int (nI s), .int (nI v), .int (nI goal)], [.int (nI v), .int (nI s), .ref 1, .ref 17, .int (nI 1), .int (nI v), .ref 19], MW A B F sw, 0, 0)) 9 rfl ?_
      refine wp_call rfl rfl rfl (ev_up (ev_gTouched (A := A) (F := F) hC hR (s := s) (v := v) (by omega) (by omega)) (by decide)) ?_
      refine wp_eq (f' := (26, [.ref 17, .int (nI s), .int (nI v), .int (nI goal)], [.int (nI (tchN nb s v)), .ref 17, .int (nI 1), .int (nI v), .ref 19], MW A B F sw, 0, 0)) rfl ?_
      have htl := tch_lt (nb := nb) (v := v) hn (ahead := s) (by omega)
      refine wp_call rfl rfl rfl (ev_up (ev_hTall (A := A) (F := F) (nb := nb) hC (h := h) hI.1 (s := tchN nb s v) (by omega)) (by decide)) ?_
      refine wp_eq (f' := (29, [.ref 17, .int (nI s), .int (nI v), .int (nI goal)], [.int (nI (hbN n nb s h v)), .int (nI 1), .int (nI v), .ref 19], MW A B F sw, 0, 0)) rfl ?_
      refine wp_go (f' := (30, [.ref 17, .int (nI s), .int (nI v), .int (nI goal)], [.int ((nI 1) + (nI (hbN n nb s h v))), .int (nI v), .ref 19], MW A B F sw, 0, 0)) 1 rfl ?_
      rw [nI_add]
      refine wp_iast rfl rfl (by omega) (by decide) ?_
      refine wp_eq (f' := (31, [.ref 17, .int (nI s), .int (nI v), .int (nI goal)], [], MW (upA A 19 (upd (A 19) v (nI (1 + (hbN n nb s h v))))) B F sw, 0, 0)) rfl ?_
      refine wp_go (f' := (36, [.ref 17, .int (nI s), .int (nI v), .int (nI goal)], [.int (nI v), .ref 19], MW (upA A 19 (upd (A 19) v (nI (1 + (hbN n nb s h v))))) B F sw, 0, 0)) 3 rfl ?_
      refine wp_iald rfl rfl (by omega) (by decide) ?_
      refine wp_eq (f' := (37, [.ref 17, .int (nI s), .int (nI v), .int (nI goal)], [.int ((upd (A 19) v (nI (1 + (hbN n nb s h v)))) v)], MW (upA A 19 (upd (A 19) v (nI (1 + (hbN n nb s h v))))) B F sw, 0, 0)) rfl ?_
      rw [pk_us]
      refine wp_go (f' := ((if (nI goal) < (nI (1 + hbN n nb s h v)) then 58 else 41), [.ref 17, .int (nI s), .int (nI v), .int (nI goal)], [], MW (upA A 19 (upd (A 19) v (nI (1 + (hbN n nb s h v))))) B F sw, 0, 0)) 2 rfl ?_
      refine wp_ite (fun _ => ?_) (fun h9 => absurd (nI_lt (by omega) (by omega)) h9)
      refine wp_go (f' := (59, [.ref 17, .int (nI s), .int (nI v), .int (nI goal)], [.int (nI 0)], MW (upA A 19 (upd (A 19) v (nI (1 + (hbN n nb s h v))))) B F sw, 0, 0)) 1 rfl ?_
      exact wp_zret rfl (by first | exact Or.inl rfl | exact Or.inr rfl)
theorem ev_hLay (hC : CI A F n nb) (hR : RI A n nb) {h : Nat → Nat} (hI : HI A h) : ∃ (g18 g19 g20 g21 g22 : Nat → Int32) (h3 : Nat → Nat), HI (upA (upA (upA (upA (upA A 18 g18) 19 g19) 20 g20) 21 g21) 22 g22) h3 ∧ mv_Ev xs Ls 6 33 [.ref 17, .ref 14] (MW A B F sw) (some (.int (nI (hgoN n nb))), MW (upA (upA (upA (upA (upA (upA A 18 g18) 19 g19) 20 g20) 21 g21) 22 g22) 14 (hayN n nb (A 14)).2.2) B F sw, 0, 0) := by
  have hn := hC.1
  have hp := pow10 hn
  have hp1 : 1 ≤ 2 ^ n := Nat.one_le_two_pow
  have hal := all_lt hn
  have hgl : (hgoN n nb) ≤ 1001 := hle_le
  have hlp : ∀ (d5 : Value) (f18 f19 f20 f21 f22 : Nat → Int32) (h2 : Nat → Nat), HI (upA (upA (upA (upA (upA A 18 f18) 19 f19) 20 f20) 21 f21) 22 f22) h2 → hagS 0 h2 (fun _ => 0) → ∃ (g18 g19 g20 g21 g22 : Nat → Int32) (h3 : Nat → Nat), HI (upA (upA (upA (upA (upA A 18 g18) 19 g19) 20 g20) 21 g21) 22 g22) h3 ∧ mv_Wp xs Ls 5 3 false (some .int) mv_c33 (11, [.ref 17, .ref 14, .int (nI (hgoN n nb)), .int (nI 0), .int (nI 0), d5], [], MW (upA (upA (upA (upA (upA (upA A 14 (A 14)) 18 f18) 19 f19) 20 f20) 21 f21) 22 f22) B F sw, 0, 0) (some (.int (nI (hgoN n nb))), MW (upA (upA (upA (upA (upA (upA A 18 g18) 19 g19) 20 g20) 21 g21) 22 g22) 14 (hayN n nb (A 14)).2.2) B F sw, 0, 0) := by
    have hfor := for_ind (P := fun (k : Nat) (q : Nat × (Nat → Nat) × (Nat → Int32)) => q.1 < 2 ^ n → (∀ u, u < 10 → q.1.testBit u = true → q.2.1 u ≤ k) → ∀ (d5 : Value) (f18 f19 f20 f21 f22 : Nat → Int32) (h2 : Nat → Nat), HI (upA (upA (upA (upA (upA A 18 f18) 19 f19) 20 f20) 21 f21) 22 f22) h2 → hagS q.1 h2 q.2.1 → ∃ (g18 g19 g20 g21 g22 : Nat → Int32) (h3 : Nat → Nat), HI (upA (upA (upA (upA (upA A 18 g18) 19 g19) 20 g20) 21 g21) 22 g22) h3 ∧ mv_Wp xs Ls 5 3 false (some .int) mv_c33 (11, [.ref 17, .ref 14, .int (nI (hgoN n nb)), .int (nI q.1), .int (nI k), d5], [], MW (upA (upA (upA (upA (upA (upA A 14 q.2.2) 18 f18) 19 f19) 20 f20) 21 f21) 22 f22) B F sw, 0, 0) (some (.int (nI (hgoN n nb))), MW (upA (upA (upA (upA (upA (upA A 18 g18) 19 g19) 20 g20) 21 g21) 22 g22) 14 (hayN n nb (A 14)).2.2) B F sw, 0, 0)) (f := hayS n nb (hgoN n nb)) (n := n) ?_ n (0, (fun _ => 0), A 14) (Nat.le_refl _) ?_ (by show 0 < 2 ^ n; omega) (fun u hu hb => by simp at hb)
    · exact hfor
    · intro k q hk ih hq1 hq2 d5 f18 f19 f20 f21 f22 h2 hI2 hag
      obtain ⟨q1, q2, q3⟩ := q
      dsimp only at hq1 hq2 hag ih ⊢
      have hV := firstV_all (p := hokN n nb (hgoN n nb) q1 q2) (n - 1) 0
      change (hpkN n nb (hgoN n nb) q1 q2) ≤ 0 + (n - 1) ∧ 0 ≤ (hpkN n nb (hgoN n nb) q1 q2) ∧ ((hpkN n nb (hgoN n nb) q1 q2) < 0 + (n - 1) → hokN n nb (hgoN n nb) q1 q2 (hpkN n nb (hgoN n nb) q1 q2) = true) ∧ ∀ w, 0 ≤ w → w < (hpkN n nb (hgoN n nb) q1 q2) → hokN n nb (hgoN n nb) q1 q2 w = false at hV
      obtain ⟨w1, w2, w3, w4⟩ := hV
      have hVn : (hpkN n nb (hgoN n nb) q1 q2) < n := by omega
      have hqk : ∀ u, u < 10 → q1.testBit u = true → h2 u ≤ 10 := fun u hu hb => by have h5 := hq2 u hu hb; rw [hag u hu hb]; omega
      have hdone2 : ∀ v, v = (hpkN n nb (hgoN n nb) q1 q2) → ∀ (f18 f19 f20 f21 f22 : Nat → Int32) (h2 : Nat → Nat), HI (upA (upA (upA (upA (upA A 18 f18) 19 f19) 20 f20) 21 f21) 22 f22) h2 → hagS q1 h2 q2 → ∃ (g18 g19 g20 g21 g22 : Nat → Int32) (h3 : Nat → Nat), HI (upA (upA (upA (upA (upA A 18 g18) 19 g19) 20 g20) 21 g21) 22 g22) h3 ∧ mv_Wp xs Ls 5 3 false (some .int) mv_c33 (57, [.ref 17, .ref 14, .int (nI (hgoN n nb)), .int (nI q1), .int (nI k), .int (nI v)], [], MW (upA (upA (upA (upA (upA (upA A 14 q3) 18 f18) 19 f19) 20 f20) 21 f21) 22 f22) B F sw, 0, 0) (some (.int (nI (hgoN n nb))), MW (upA (upA (upA (upA (upA (upA A 18 g18) 19 g19) 20 g20) 21 g21) 22 g22) 14 (hayN n nb (A 14)).2.2) B F sw, 0, 0) := by
        intro v hvV f18 f19 f20 f21 f22 h2 hI2 hag
        rw [hvV]
        have hbe := hb_congr (nb := nb) hn (by omega : q1 < 1024) hag (hpkN n nb (hgoN n nb) q1 q2)
        have hbl := hb_le (v := (hpkN n nb (hgoN n nb) q1 q2)) (nb := nb) hn (by omega : q1 < 1024) hq2
        have hhx := upd_up (v := (hpkN n nb (hgoN n nb) q1 q2)) (x := 1 + hbN n nb q1 q2 (hpkN n nb (hgoN n nb) q1 q2)) hI2.1 (by omega)
        have hq2n : ∀ u, u < 10 → (q1 ||| 2 ^ (hpkN n nb (hgoN n nb) q1 q2)).testBit u = true → upN q2 (hpkN n nb (hgoN n nb) q1 q2) (1 + hbN n nb q1 q2 (hpkN n nb (hgoN n nb) q1 q2)) u ≤ k + 1 := by
          intro u hu hb
          unfold upN
          split
          · omega
          · rename_i hne
            have h6 : q1.testBit u = true := by
              rw [Nat.testBit_or, Nat.testBit_two_pow, decide_eq_false (fun e2 => hne e2.symm), Bool.or_false] at hb
              exact hb
            have := hq2 u hu h6
            omega
        obtain ⟨g18, g19, g20, g21, g22, h3, hI3, hW⟩ := ih (or_ltn hq1 hVn) hq2n (.int (nI (hpkN n nb (hgoN n nb) q1 q2))) f18 (upd f19 (hpkN n nb (hgoN n nb) q1 q2) (nI (1 + hbN n nb q1 q2 (hpkN n nb (hgoN n nb) q1 q2)))) f20 f21 f22 (upN h2 (hpkN n nb (hgoN n nb) q1 q2) (1 + hbN n nb q1 q2 (hpkN n nb (hgoN n nb) q1 q2))) ⟨hhx, hI2.2⟩ (hag_up hag)
        refine ⟨g18, g19, g20, g21, g22, h3, hI3, ?_⟩
        refine wp_go (f' := (72, [.ref 17, .ref 14, .int (nI (hgoN n nb)), .int (nI q1), .int (nI k), .int (nI (hpkN n nb (hgoN n nb) q1 q2))], [.int (nI (hpkN n nb (hgoN n nb) q1 q2)), .int (nI q1), .ref 1, .ref 17, .int (nI 1), .int (nI (hpkN n nb (hgoN n nb) q1 q2)), .ref 19], MW (upA (upA (upA (upA (upA (upA A 14 q3) 18 f18) 19 f19) 20 f20) 21 f21) 22 f22) B F sw, 0, 0)) 9 rfl ?_
        refine wp_call rfl rfl rfl (ev_up (ev_gTouched (A := (upA (upA (upA (upA (upA (upA A 18 f18) 19 f19) 20 f20) 21 f21) 22 f22) 14 q3)) (F := F) hC hR (s := q1) (v := (hpkN n nb (hgoN n nb) q1 q2)) (by omega) (by omega)) (by decide)) ?_
        refine wp_eq (f' := (75, [.ref 17, .ref 14, .int (nI (hgoN n nb)), .int (nI q1), .int (nI k), .int (nI (hpkN n nb (hgoN n nb) q1 q2))], [.int (nI (tchN nb q1 (hpkN n nb (hgoN n nb) q1 q2))), .ref 17, .int (nI 1), .int (nI (hpkN n nb (hgoN n nb) q1 q2)), .ref 19], MW (upA (upA (upA (upA (upA (upA A 14 q3) 18 f18) 19 f19) 20 f20) 21 f21) 22 f22) B F sw, 0, 0)) rfl ?_
        have htl := tch_lt (nb := nb) (v := (hpkN n nb (hgoN n nb) q1 q2)) hn (ahead := q1) (by omega)
        have hta := ev_hTall (xs := xs) (Ls := Ls) (B := B) (sw := sw) (A := (upA (upA (upA (upA (upA (upA A 18 f18) 19 f19) 20 f20) 21 f21) 22 f22) 14 q3)) (F := F) (nb := nb) hC (h := h2) hI2.1 (s := tchN nb q1 (hpkN n nb (hgoN n nb) q1 q2)) (by omega)
        rw [show tallN n h2 (tchN nb q1 (hpkN n nb (hgoN n nb) q1 q2)) = hbN n nb q1 q2 (hpkN n nb (hgoN n nb) q1 q2) from hbe] at hta
        refine wp_call rfl rfl rfl (ev_up hta (by decide)) ?_
        refine wp_eq (f' := (78, [.ref 17, .ref 14, .int (nI (hgoN n nb)), .int (nI q1), .int (nI k), .int (nI (hpkN n nb (hgoN n nb) q1 q2))], [.int (nI (hbN n nb q1 q2 (hpkN n nb (hgoN n nb) q1 q2))), .int (nI 1), .int (nI (hpkN n nb (hgoN n nb) q1 q2)), .ref 19], MW (upA (upA (upA (upA (upA (upA A 14 q3) 18 f18) 19 f19) 20 f20) 21 f21) 22 f22) B F sw, 0, 0)) rfl ?_
        refine wp_go (f' := (79, [.ref 17, .ref 14, .int (nI (hgoN n nb)), .int (nI q1), .int (nI k), .int (nI (hpkN n nb (hgoN n nb) q1 q2))], [.int ((nI 1) + (nI (hbN n nb q1 q2 (hpkN n nb (hgoN n nb) q1 q2)))), .int (nI (hpkN n nb (hgoN n nb) q1 q2)), .ref 19], MW (upA (upA (upA (upA (upA (upA A 14 q3) 18 f18) 19 f19) 20 f20) 21 f21) 22 f22) B F sw, 0, 0)) 1 rfl ?_
        rw [nI_add]
        refine wp_iast rfl rfl (by omega) (by decide) ?_
        refine wp_eq (f' := (80, [.ref 17, .ref 14, .int (nI (hgoN n nb)), .int (nI q1), .int (nI k), .int (nI (hpkN n nb (hgoN n nb) q1 q2))], [], MW (upA (upA (upA (upA (upA (upA A 14 q3) 18 f18) 20 f20) 21 f21) 22 f22) 19 (upd f19 (hpkN n nb (hgoN n nb) q1 q2) (nI (1 + (hbN n nb q1 q2 (hpkN n nb (hgoN n nb) q1 q2)))))) B F sw, 0, 0)) rfl ?_
        refine wp_go (f' := (85, [.ref 17, .ref 14, .int (nI (hgoN n nb)), .int (nI q1), .int (nI k), .int (nI (hpkN n nb (hgoN n nb) q1 q2))], [.int (nI (hpkN n nb (hgoN n nb) q1 q2)), .int (nI k), .ref 14], MW (upA (upA (upA (upA (upA (upA A 14 q3) 18 f18) 20 f20) 21 f21) 22 f22) 19 (upd f19 (hpkN n nb (hgoN n nb) q1 q2) (nI (1 + (hbN n nb q1 q2 (hpkN n nb (hgoN n nb) q1 q2)))))) B F sw, 0, 0)) 3 rfl ?_
        refine wp_iast rfl rfl (by omega) (by decide) ?_
        refine wp_eq (f' := (86, [.ref 17, .ref 14, .int (nI (hgoN n nb)), .int (nI q1), .int (nI k), .int (nI (hpkN n nb (hgoN n nb) q1 q2))], [], MW (upA (upA (upA (upA (upA (upA A 18 f18) 20 f20) 21 f21) 22 f22) 19 (upd f19 (hpkN n nb (hgoN n nb) q1 q2) (nI (1 + (hbN n nb q1 q2 (hpkN n nb (hgoN n nb) q1 q2)))))) 14 (upd q3 k (nI (hpkN n nb (hgoN n nb) q1 q2)))) B F sw, 0, 0)) rfl ?_
        refine wp_go (f' := (91, [.ref 17, .ref 14, .int (nI (hgoN n nb)), .int (nI q1), .int (nI k), .int (nI (hpkN n nb (hgoN n nb) q1 q2))], [.int ((nI 1) <<< ((nI (hpkN n nb (hgoN n nb) q1 q2)) &&& 31)), .int (nI q1)], MW (upA (upA (upA (upA (upA (upA A 18 f18) 20 f20) 21 f21) 22 f22) 19 (upd f19 (hpkN n nb (hgoN n nb) q1 q2) (nI (1 + (hbN n nb q1 q2 (hpkN n nb (hgoN n nb) q1 q2)))))) 14 (upd q3 k (nI (hpkN n nb (hgoN n nb) q1 q2)))) B F sw, 0, 0)) 4 rfl ?_
        rw [bx_one (by omega)]
        refine wp_go (f' := (92, [.ref 17, .ref 14, .int (nI (hgoN n nb)), .int (nI q1), .int (nI k), .int (nI (hpkN n nb (hgoN n nb) q1 q2))], [.int ((nI q1) ||| (nI (2 ^ (hpkN n nb (hgoN n nb) q1 q2))))], MW (upA (upA (upA (upA (upA (upA A 18 f18) 20 f20) 21 f21) 22 f22) 19 (upd f19 (hpkN n nb (hgoN n nb) q1 q2) (nI (1 + (hbN n nb q1 q2 (hpkN n nb (hgoN n nb) q1 q2)))))) 14 (upd q3 k (nI (hpkN n nb (hgoN n nb) q1 q2)))) B F sw, 0, 0)) 1 rfl ?_
        rw [bx_or]
        refine wp_go (f' := (96, [.ref 17, .ref 14, .int (nI (hgoN n nb)), .int (nI (q1 ||| (2 ^ (hpkN n nb (hgoN n nb) q1 q2)))), .int ((nI k) + 1), .int (nI (hpkN n nb (hgoN n nb) q1 q2))], [], MW (upA (upA (upA (upA (upA (upA A 18 f18) 20 f20) 21 f21) 22 f22) 19 (upd f19 (hpkN n nb (hgoN n nb) q1 q2) (nI (1 + (hbN n nb q1 q2 (hpkN n nb (hgoN n nb) q1 q2)))))) 14 (upd q3 k (nI (hpkN n nb (hgoN n nb) q1 q2)))) B F sw, 0, 0)) 2 rfl ?_
        rw [nI_1]
        refine wp_go (f' := (11, [.ref 17, .ref 14, .int (nI (hgoN n nb)), .int (nI (q1 ||| (2 ^ (hpkN n nb (hgoN n nb) q1 q2)))), .int (nI (k + 1)), .int (nI (hpkN n nb (hgoN n nb) q1 q2))], [], MW (upA (upA (upA (upA (upA (upA A 18 f18) 20 f20) 21 f21) 22 f22) 19 (upd f19 (hpkN n nb (hgoN n nb) q1 q2) (nI (1 + (hbN n nb q1 q2 (hpkN n nb (hgoN n nb) q1 q2)))))) 14 (upd q3 k (nI (hpkN n nb (hgoN n nb) q1 q2)))) B F sw, 0, 0)) 1 rfl ?_
        exact hW
      have hwl : ∀ (v : Nat), v ≤ (hpkN n nb (hgoN n nb) q1 q2) → ∀ (f18 f19 f20 f21 f22 : Nat → Int32) (h2 : Nat → Nat), HI (upA (upA (upA (upA (upA A 18 f18) 19 f19) 20 f20) 21 f21) 22 f22) h2 → hagS q1 h2 q2 → ∃ (g18 g19 g20 g21 g22 : Nat → Int32) (h3 : Nat → Nat), HI (upA (upA (upA (upA (upA A 18 g18) 19 g19) 20 g20) 21 g21) 22 g22) h3 ∧ mv_Wp xs Ls 5 3 false (some .int) mv_c33 (26, [.ref 17, .ref 14, .int (nI (hgoN n nb)), .int (nI q1), .int (nI k), .int (nI v)], [], MW (upA (upA (upA (upA (upA (upA A 14 q3) 18 f18) 19 f19) 20 f20) 21 f21) 22 f22) B F sw, 0, 0) (some (.int (nI (hgoN n nb))), MW (upA (upA (upA (upA (upA (upA A 18 g18) 19 g19) 20 g20) 21 g21) 22 g22) 14 (hayN n nb (A 14)).2.2) B F sw, 0, 0) := by
        refine wh_ind (fun v => n - v) ?_
        intro v ih2 hv f18 f19 f20 f21 f22 h2 hI2 hag
        have hqk : ∀ u, u < 10 → q1.testBit u = true → h2 u ≤ 10 := fun u hu hb => by have h5 := hq2 u hu hb; rw [hag u hu hb]; omega
        by_cases hvn : v < n - 1
        · obtain ⟨x18, x19, x20, x21, x22, h4, hI4, hag4, hev⟩ := ev_hStays (xs := xs) (Ls := Ls) (B := B) (sw := sw) (A := (upA (upA (upA (upA (upA (upA A 18 f18) 19 f19) 20 f20) 21 f21) 22 f22) 14 q3)) (F := F) hC hR (h := h2) hI2 (s := q1) (v := v) (goal := (hgoN n nb)) hq1 (by omega) hqk hgl
          rw [hok_congr hn (by omega) hag (by omega)] at hev
          have hag5 : hagS q1 h4 q2 := fun u hu hb => by rw [hag4 u hu hb]; exact hag u hu hb
          cases hok : hokN n nb (hgoN n nb) q1 q2 v with
          | false =>
            have hne : v ≠ (hpkN n nb (hgoN n nb) q1 q2) := fun e5 => by have h6 := w3 (by omega); rw [← e5, hok] at h6; cases h6
            obtain ⟨g18, g19, g20, g21, g22, h3, hI3, hW⟩ := ih2 (v + 1) (by omega) (by omega) x18 x19 x20 x21 x22 h4 hI4 hag5
            refine ⟨g18, g19, g20, g21, g22, h3, hI3, ?_⟩
            refine wp_go (f' := (35, [.ref 17, .ref 14, .int (nI (hgoN n nb)), .int (nI q1), .int (nI k), .int (nI v)], [.int (F 0), .int (nI v)], MW (upA (upA (upA (upA (upA (upA A 14 q3) 18 f18) 19 f19) 20 f20) 21 f21) 22 f22) B F sw, 0, 0)) 4 rfl ?_
            rw [hC.2.1]
            refine wp_go (f' := (37, [.ref 17, .ref 14, .int (nI (hgoN n nb)), .int (nI q1), .int (nI k), .int (nI v)], [.int ((nI n) - (nI 1)), .int (nI v)], MW (upA (upA (upA (upA (upA (upA A 14 q3) 18 f18) 19 f19) 20 f20) 21 f21) 22 f22) B F sw, 0, 0)) 2 rfl ?_
            rw [pk_sub (by omega)]
            refine wp_go (f' := ((if (nI (n - 1)) ≤ (nI v) then 57 else 40), [.ref 17, .ref 14, .int (nI (hgoN n nb)), .int (nI q1), .int (nI k), .int (nI v)], [], MW (upA (upA (upA (upA (upA (upA A 14 q3) 18 f18) 19 f19) 20 f20) 21 f21) 22 f22) B F sw, 0, 0)) 1 rfl ?_
            refine wp_ite (fun h9 => absurd h9 (nI_ge (by omega) (by omega))) (fun _ => ?_)
            refine wp_go (f' := (45, [.ref 17, .ref 14, .int (nI (hgoN n nb)), .int (nI q1), .int (nI k), .int (nI v)], [.int (nI (hgoN n nb)), .int (nI v), .int (nI q1), .ref 17], MW (upA (upA (upA (upA (upA (upA A 14 q3) 18 f18) 19 f19) 20 f20) 21 f21) 22 f22) B F sw, 0, 0)) 4 rfl ?_
            refine wp_call rfl rfl rfl (ev_up hev (by decide)) ?_
            refine wp_eq (f' := (48, [.ref 17, .ref 14, .int (nI (hgoN n nb)), .int (nI q1), .int (nI k), .int (nI v)], [.int (bI (hokN n nb (hgoN n nb) q1 q2 v))], MW (upA (upA (upA (upA (upA (upA A 14 q3) 18 x18) 19 x19) 20 x20) 21 x21) 22 x22) B F sw, 0, 0)) rfl ?_
            refine wp_go (f' := ((if ¬ (bI (hokN n nb (hgoN n nb) q1 q2 v)) = 0 then 57 else 51), [.ref 17, .ref 14, .int (nI (hgoN n nb)), .int (nI q1), .int (nI k), .int (nI v)], [], MW (upA (upA (upA (upA (upA (upA A 14 q3) 18 x18) 19 x19) 20 x20) 21 x21) 22 x22) B F sw, 0, 0)) 1 rfl ?_
            refine wp_ite (fun h9 => absurd h9 (fun h8 => h8 (bI_f hok))) (fun _ => ?_)
            refine wp_go (f' := (54, [.ref 17, .ref 14, .int (nI (hgoN n nb)), .int (nI q1), .int (nI k), .int ((nI v) + 1)], [], MW (upA (upA (upA (upA (upA (upA A 14 q3) 18 x18) 19 x19) 20 x20) 21 x21) 22 x22) B F sw, 0, 0)) 1 rfl ?_
            rw [nI_1]
            refine wp_go (f' := (26, [.ref 17, .ref 14, .int (nI (hgoN n nb)), .int (nI q1), .int (nI k), .int (nI (v + 1))], [], MW (upA (upA (upA (upA (upA (upA A 14 q3) 18 x18) 19 x19) 20 x20) 21 x21) 22 x22) B F sw, 0, 0)) 1 rfl ?_
            exact hW
          | true =>
            have hvV : v = (hpkN n nb (hgoN n nb) q1 q2) := by
              rcases Nat.lt_or_ge v (hpkN n nb (hgoN n nb) q1 q2) with g9 | g9
              · have h6 := w4 v (Nat.zero_le _) g9; rw [hok] at h6; cases h6
              · omega
            have hdn := hdone2 v hvV x18 x19 x20 x21 x22 h4 hI4 hag5
            obtain ⟨g18, g19, g20, g21, g22, h3, hI3, hW⟩ := hdn
            refine ⟨g18, g19, g20, g21, g22, h3, hI3, ?_⟩
            refine wp_go (f' := (35, [.ref 17, .ref 14, .int (nI (hgoN n nb)), .int (nI q1), .int (nI k), .int (nI v)], [.int (F 0), .int (nI v)], MW (upA (upA (upA (upA (upA (upA A 14 q3) 18 f18) 19 f19) 20 f20) 21 f21) 22 f22) B F sw, 0, 0)) 4 rfl ?_
            rw [hC.2.1]
            refine wp_go (f' := (37, [.ref 17, .ref 14, .int (nI (hgoN n nb)), .int (nI q1), .int (nI k), .int (nI v)], [.int ((nI n) - (nI 1)), .int (nI v)], MW (upA (upA (upA (upA (upA (upA A 14 q3) 18 f18) 19 f19) 20 f20) 21 f21) 22 f22) B F sw, 0, 0)) 2 rfl ?_
            rw [pk_sub (by omega)]
            refine wp_go (f' := ((if (nI (n - 1)) ≤ (nI v) then 57 else 40), [.ref 17, .ref 14, .int (nI (hgoN n nb)), .int (nI q1), .int (nI k), .int (nI v)], [], MW (upA (upA (upA (upA (upA (upA A 14 q3) 18 f18) 19 f19) 20 f20) 21 f21) 22 f22) B F sw, 0, 0)) 1 rfl ?_
            refine wp_ite (fun h9 => absurd h9 (nI_ge (by omega) (by omega))) (fun _ => ?_)
            refine wp_go (f' := (45, [.ref 17, .ref 14, .int (nI (hgoN n nb)), .int (nI q1), .int (nI k), .int (nI v)], [.int (nI (hgoN n nb)), .int (nI v), .int (nI q1), .ref 17], MW (upA (upA (upA (upA (upA (upA A 14 q3) 18 f18) 19 f19) 20 f20) 21 f21) 22 f22) B F sw, 0, 0)) 4 rfl ?_
            refine wp_call rfl rfl rfl (ev_up hev (by decide)) ?_
            refine wp_eq (f' := (48, [.ref 17, .ref 14, .int (nI (hgoN n nb)), .int (nI q1), .int (nI k), .int (nI v)], [.int (bI (hokN n nb (hgoN n nb) q1 q2 v))], MW (upA (upA (upA (upA (upA (upA A 14 q3) 18 x18) 19 x19) 20 x20) 21 x21) 22 x22) B F sw, 0, 0)) rfl ?_
            refine wp_go (f' := ((if ¬ (bI (hokN n nb (hgoN n nb) q1 q2 v)) = 0 then 57 else 51), [.ref 17, .ref 14, .int (nI (hgoN n nb)), .int (nI q1), .int (nI k), .int (nI v)], [], MW (upA (upA (upA (upA (upA (upA A 14 q3) 18 x18) 19 x19) 20 x20) 21 x21) 22 x22) B F sw, 0, 0)) 1 rfl ?_
            refine wp_ite (fun _ => ?_) (fun h9 => absurd (by rw [bI_t hok]; decide) h9)
            exact hW
        · obtain ⟨g18, g19, g20, g21, g22, h3, hI3, hW⟩ := hdone2 v (by omega) f18 f19 f20 f21 f22 h2 hI2 hag
          refine ⟨g18, g19, g20, g21, g22, h3, hI3, ?_⟩
          refine wp_go (f' := (35, [.ref 17, .ref 14, .int (nI (hgoN n nb)), .int (nI q1), .int (nI k), .int (nI v)], [.int (F 0), .int (nI v)], MW (upA (upA (upA (upA (upA (upA A 14 q3) 18 f18) 19 f19) 20 f20) 21 f21) 22 f22) B F sw, 0, 0)) 4 rfl ?_
          rw [hC.2.1]
          refine wp_go (f' := (37, [.ref 17, .ref 14, .int (nI (hgoN n nb)), .int (nI q1), .int (nI k), .int (nI v)], [.int ((nI n) - (nI 1)), .int (nI v)], MW (upA (upA (upA (upA (upA (upA A 14 q3) 18 f18) 19 f19) 20 f20) 21 f21) 22 f22) B F sw, 0, 0)) 2 rfl ?_
          rw [pk_sub (by omega)]
          refine wp_go (f' := ((if (nI (n - 1)) ≤ (nI v) then 57 else 40), [.ref 17, .ref 14, .int (nI (hgoN n nb)), .int (nI q1), .int (nI k), .int (nI v)], [], MW (upA (upA (upA (upA (upA (upA A 14 q3) 18 f18) 19 f19) 20 f20) 21 f21) 22 f22) B F sw, 0, 0)) 1 rfl ?_
          refine wp_ite (fun _ => ?_) (fun h9 => absurd (nI_le (by omega) (by omega)) h9)
          exact hW
      obtain ⟨g18, g19, g20, g21, g22, h3, hI3, hW⟩ := hwl 0 (Nat.zero_le _) f18 f19 f20 f21 f22 h2 hI2 hag
      refine ⟨g18, g19, g20, g21, g22, h3, hI3, ?_⟩
      refine wp_go (f' := (20, [.ref 17, .ref 14, .int (nI (hgoN n nb)), .int (nI q1), .int (nI k), d5], [.int (F 0), .int (nI k)], MW (upA (upA (upA (upA (upA (upA A 14 q3) 18 f18) 19 f19) 20 f20) 21 f21) 22 f22) B F sw, 0, 0)) 4 rfl ?_
      rw [hC.2.1]
      refine wp_go (f' := ((if (nI n) ≤ (nI k) then 99 else 23), [.ref 17, .ref 14, .int (nI (hgoN n nb)), .int (nI q1), .int (nI k), d5], [], MW (upA (upA (upA (upA (upA (upA A 14 q3) 18 f18) 19 f19) 20 f20) 21 f21) 22 f22) B F sw, 0, 0)) 1 rfl ?_
      refine wp_ite (fun h9 => absurd h9 (nI_ge hk (by omega))) (fun _ => ?_)
      refine wp_go (f' := (26, [.ref 17, .ref 14, .int (nI (hgoN n nb)), .int (nI q1), .int (nI k), .int (nI 0)], [], MW (upA (upA (upA (upA (upA (upA A 14 q3) 18 f18) 19 f19) 20 f20) 21 f21) 22 f22) B F sw, 0, 0)) 2 rfl ?_
      exact hW
    · intro hq1 hq2 d5 f18 f19 f20 f21 f22 h2 hI2 hag
      refine ⟨f18, f19, f20, f21, f22, h2, hI2, ?_⟩
      refine wp_go (f' := (20, [.ref 17, .ref 14, .int (nI (hgoN n nb)), .int (nI (hayN n nb (A 14)).1), .int (nI n), d5], [.int (F 0), .int (nI n)], MW (upA (upA (upA (upA (upA (upA A 14 (hayN n nb (A 14)).2.2) 18 f18) 19 f19) 20 f20) 21 f21) 22 f22) B F sw, 0, 0)) 4 rfl ?_
      rw [hC.2.1]
      refine wp_go (f' := ((if (nI n) ≤ (nI n) then 99 else 23), [.ref 17, .ref 14, .int (nI (hgoN n nb)), .int (nI (hayN n nb (A 14)).1), .int (nI n), d5], [], MW (upA (upA (upA (upA (upA (upA A 14 (hayN n nb (A 14)).2.2) 18 f18) 19 f19) 20 f20) 21 f21) 22 f22) B F sw, 0, 0)) 1 rfl ?_
      refine wp_ite (fun _ => ?_) (fun h9 => absurd (nI_le (Nat.le_refl _) (by omega)) h9)
      refine wp_go (f' := (100, [.ref 17, .ref 14, .int (nI (hgoN n nb)), .int (nI (hayN n nb (A 14)).1), .int (nI n), d5], [.int (nI (hgoN n nb))], MW (upA (upA (upA (upA (upA (upA A 14 (hayN n nb (A 14)).2.2) 18 f18) 19 f19) 20 f20) 21 f21) 22 f22) B F sw, 0, 0)) 1 rfl ?_
      exact wp_iret rfl
  have hg0 : hleN n nb 0 h = (hgoN n nb) := hle_congr hn (by omega) (fun u hu hb => by simp at hb)
  obtain ⟨x18, x20, x21, x22, hz, hev⟩ := ev_hLeast (xs := xs) (Ls := Ls) (B := B) (sw := sw) (F := F) hC hR hI.1 (s := 0) (by omega) hI.2
  rw [hg0] at hev
  obtain ⟨g18, g19, g20, g21, g22, h3, hI3, hW⟩ := hlp (.retAddr 0) x18 (A 19) x20 x21 x22 h ⟨hI.1, hz⟩ (fun u hu hb => by simp at hb)
  refine ⟨g18, g19, g20, g21, g22, h3, hI3, ?_⟩
  refine ev_of_wp rfl rfl rfl ?_
  refine wp_go (f' := (2, [.ref 17, .ref 14, .retAddr 0, .retAddr 0, .retAddr 0, .retAddr 0], [.int (nI 0), .ref 17], MW A B F sw, 0, 0)) 2 rfl ?_
  refine wp_call rfl rfl rfl (ev_up hev (by decide)) ?_
  refine wp_eq (f' := (5, [.ref 17, .ref 14, .retAddr 0, .retAddr 0, .retAddr 0, .retAddr 0], [.int (nI (hgoN n nb))], MW (upA (upA (upA (upA A 18 x18) 20 x20) 21 x21) 22 x22) B F sw, 0, 0)) rfl ?_
  refine wp_go (f' := (11, [.ref 17, .ref 14, .int (nI (hgoN n nb)), .int (nI 0), .int (nI 0), .retAddr 0], [], MW (upA (upA (upA (upA A 18 x18) 20 x20) 21 x21) 22 x22) B F sw, 0, 0)) 5 rfl ?_
  exact hW
end CC
