/-! the reference's least heights, set by set -/
theorem reF_congr {n : Nat} {nb : Nat → Nat} {a w : Nat} {val val' : Nat → Nat} (ha : a < 1024) (hw : w < 1024) (hwa : w &&& a = 0) (h : ∀ rest, subS rest w → ¬ rest = 0 → val (ptN n nb a w rest) = val' (ptN n nb a w rest)) : ∀ f rest m, subS rest w → reF n nb a w val f rest m = reF n nb a w val' f rest m
  | 0, rest, m, _ => rfl
  | f + 1, rest, m, hr => by
    show (if rest = 0 then m else _) = (if rest = 0 then m else _)
    by_cases h0 : rest = 0
    · rw [if_pos h0, if_pos h0]
    · rw [if_neg h0, if_neg h0, h rest hr h0]
      exact reF_congr ha hw hwa h f _ _ (subS_sdc (Nat.lt_of_le_of_lt (subS_le hr) hw) hr)
theorem reF_0 {n : Nat} {nb : Nat → Nat} {a w : Nat} {val : Nat → Nat} {m : Nat} : ∀ f, reF n nb a w val f 0 m = m
  | 0 => rfl
  | _ + 1 => rfl
theorem reF_max {n : Nat} {nb : Nat → Nat} {a w : Nat} {val : Nat → Nat} : ∀ f rest m, reF n nb a w val f rest m = if m < reF n nb a w val f rest 0 then reF n nb a w val f rest 0 else m
  | 0, rest, m => by show m = if m < 0 then 0 else m; rw [if_neg (by omega)]
  | f + 1, rest, m => by
    by_cases h0 : rest = 0
    · subst h0; rw [reF_0, reF_0, if_neg (by omega)]
    · have e : ∀ m, reF n nb a w val (f + 1) rest m = reF n nb a w val f (sd rest (ptN n nb a w rest)) (if m < val (ptN n nb a w rest) then val (ptN n nb a w rest) else m) := fun m => by
        show (if rest = 0 then m else _) = _
        rw [if_neg h0]
      rw [e, e, reF_max f _ (if m < val (ptN n nb a w rest) then val (ptN n nb a w rest) else m), reF_max f _ (if 0 < val (ptN n nb a w rest) then val (ptN n nb a w rest) else 0)]
      generalize reF n nb a w val f (sd rest (ptN n nb a w rest)) 0 = R
      generalize val (ptN n nb a w rest) = V
      (repeat' split) <;> omega
theorem tpV_congr {n : Nat} {jo hi b c : Nat → Nat} {w v : Nat} (h : b (sd w (2 ^ v)) = c (sd w (2 ^ v))) : tpV n jo hi b w v = tpV n jo hi c w v := by
  unfold tpV; rw [h]
theorem tpN_congr {n : Nat} {jo hi b c : Nat → Nat} {w : Nat} (h : ∀ v, v < n → w.testBit v = true → b (sd w (2 ^ v)) = c (sd w (2 ^ v))) : tpN n jo hi b w = tpN n jo hi c w := by
  unfold tpN
  refine forN_congr (fun v hv m => ?_) _ n (Nat.le_refl _)
  by_cases hb : w.testBit v = true
  · rw [if_pos hb, if_pos hb, tpV_congr (h v hv hb)]
  · rw [if_neg hb, if_neg hb]
theorem beX_congr {n : Nat} {nb hi : Nat → Nat} {a w : Nat} {T T' : Nat → Nat} (ha : a < 1024) (hw : w < 1024) (hwa : w &&& a = 0) (h : ∀ u, u < w → u &&& a = 0 → T u = T' u) : beX n nb hi a w T = beX n nb hi a w T' := by
  unfold beX
  refine reF_congr ha hw hwa (fun rest hr h0 => ?_) 1024 w 0 (fun _ h => h)
  obtain ⟨p1, p2, p3⟩ := pt_ok (n := n) (nb := nb) ha hw hwa hr h0
  generalize ptN n nb a w rest = p at p1 p2 p3
  try dsimp only
  by_cases e : p = w
  · rw [if_pos e, if_pos e]
    refine tpN_congr (fun v hv hb => h _ (sd_lss hw hb (pow_t.mpr rfl)) (and_sd0 hw hwa))
  · rw [if_neg e, if_neg e]
    have := subS_le p1
    exact h p (by omega) p3
theorem be_keep {n : Nat} {nb hi : Nat → Nat} {a : Nat} {q0 : (Nat → Nat) × (Nat → Int32)} {u : Nat} : ∀ d j, u < j → (forN (beS n nb hi a) (j + d) q0).1 u = (forN (beS n nb hi a) j q0).1 u
  | 0, j, _ => rfl
  | d + 1, j, hu => by
    rw [← be_keep d j hu]
    show (beS n nb hi a (j + d) (forN (beS n nb hi a) (j + d) q0)).1 u = _
    unfold beS
    split
    · show upN _ (j + d) _ u = _
      unfold upN
      rw [if_neg (by omega)]
    · rfl
theorem be_eq {n : Nat} {nb hi : Nat → Nat} {a w : Nat} (hn : n ≤ 10) (ha : a < 1024) (hw : w < 2 ^ n) (hwa : w &&& a = 0) : beT n nb hi a w = beX n nb hi a w (beT n nb hi a) := by
  have hp := pow10 hn
  have hall : ∀ u j, u < j → j ≤ 2 ^ n → beT n nb hi a u = (forN (beS n nb hi a) j ((fun _ => 0), (fun _ => 0))).1 u := fun u j h1 h2 => by
    have := be_keep (n := n) (nb := nb) (hi := hi) (a := a) (q0 := ((fun _ => 0), (fun _ => 0))) (u := u) (2 ^ n - j) j h1
    rw [show j + (2 ^ n - j) = 2 ^ n by omega] at this
    exact this
  rw [beX_congr (T' := (forN (beS n nb hi a) w ((fun _ => 0), (fun _ => 0))).1) ha (by omega) hwa (fun u h1 h2 => hall u w h1 (by omega)), hall w (w + 1) (by omega) (by omega)]
  show (beS n nb hi a w (forN (beS n nb hi a) w ((fun _ => 0), (fun _ => 0)))).1 w = _
  unfold beS
  rw [if_pos hwa]
  show upN _ w _ w = _
  unfold upN
  rw [if_pos rfl]
/-- the least height of a set whose last is v, for all its v -/
def tqN (n : Nat) (nb hi : Nat → Nat) (a p : Nat) : Nat := tpN n (joN n nb a) hi (beT n nb hi a) p
section GG
variable {n : Nat} {nb : Nat → Nat}
theorem pt_cm {a w rest : Nat} : ptN n nb a w rest = cmpN n nb a w (low rest) := rfl
theorem be_one (G : GR n nb) {hi : Nat → Nat} {a w : Nat} (ha : a < 2 ^ n) (hw : w < 2 ^ n) (hd : DJ w a) (h0 : w ≠ 0) (h1 : cmpN n nb a w (low w) = w) : beT n nb hi a w = tqN n nb hi a w := by
  have hp := pow10 G.1
  rw [be_eq G.1 (by omega) hw (dj_and hd)]
  unfold beX
  rw [reF_s (by omega) (by omega) (dj_and hd) (fun _ h => h) h0, pt_cm, h1]
  have hs : sd w w = 0 := eq_of_bits (fun i => by
    rw [sd_t (by omega)]
    constructor
    · rintro ⟨g1, g2⟩; rw [g1] at g2; cases g2
    · intro h; simp at h)
  rw [hs, reF_0, if_pos rfl]
  show (if 0 < tqN n nb hi a w then tqN n nb hi a w else 0) = tqN n nb hi a w
  split <;> omega
theorem be_parts (G : GR n nb) {hi : Nat → Nat} {a w : Nat} (ha : a < 2 ^ n) (hw : w < 2 ^ n) (hd : DJ w a) : beT n nb hi a w = reF n nb a w (tqN n nb hi a) 1024 w 0 := by
  have hp := pow10 G.1
  rw [be_eq G.1 (by omega) hw (dj_and hd)]
  unfold beX
  refine reF_congr (by omega) (by omega) (dj_and hd) (fun rest hr hr0 => ?_) 1024 w 0 (fun _ h => h)
  rw [pt_cm]
  have hrl : rest < 1024 := Nat.lt_of_le_of_lt (subS_le hr) (by omega)
  have hu := hr _ (low_bit hrl hr0)
  have hs := cm_sub G ha hw hu
  have hself := cm_self G ha hw hd hu
  by_cases e : cmpN n nb a w (low rest) = w
  · rw [if_pos e, e]; rfl
  · rw [if_neg e]
    have hl := sub_ltn hw hs
    have h0 := bit_ne0 hself
    exact be_one G ha hl (dj_sub hd hs) h0 (cm_single G ha hw hu (low_bit (by omega) h0))
theorem reF_local (G : GR n nb) {val : Nat → Nat} {a w u : Nat} (ha : a < 2 ^ n) (hw : w < 2 ^ n) (hd : DJ w a) (hu : w.testBit u = true) : ∀ f rest m, subS rest (sd w (cmpN n nb a w u)) → reF n nb a w val f rest m = reF n nb a (sd w (cmpN n nb a w u)) val f rest m
  | 0, rest, m, _ => rfl
  | f + 1, rest, m, hr => by
    have hp := pow10 G.1
    show (if rest = 0 then m else _) = (if rest = 0 then m else _)
    by_cases h0 : rest = 0
    · rw [if_pos h0, if_pos h0]
    · rw [if_neg h0, if_neg h0]
      have hsw : subS (sd w (cmpN n nb a w u)) w := subS_sd (by omega)
      have hrl : rest < 1024 := Nat.lt_of_le_of_lt (subS_le hr) (sd_lt (by omega))
      have hb := hr _ (low_bit hrl h0)
      obtain ⟨b1, b2⟩ := (sd_t (by omega)).mp hb
      have he : ptN n nb a (sd w (cmpN n nb a w u)) rest = ptN n nb a w rest := by
        rw [pt_cm, pt_cm]
        refine cm_loc G ha hw hsw hb (fun i hi => (sd_t (by omega)).mpr ⟨cm_sub G ha hw b1 i hi, cm_disj G ha hw hd hu b1 b2 i hi⟩)
      rw [he]
      exact reF_local G ha hw hd hu f _ _ (subS_sdc hrl hr)
theorem be_two (G : GR n nb) {hi : Nat → Nat} {a w : Nat} (ha : a < 2 ^ n) (hw : w < 2 ^ n) (hd : DJ w a) (h0 : w ≠ 0) : beT n nb hi a w = if beT n nb hi a (cmpN n nb a w (low w)) < beT n nb hi a (sd w (cmpN n nb a w (low w))) then beT n nb hi a (sd w (cmpN n nb a w (low w))) else beT n nb hi a (cmpN n nb a w (low w)) := by
  have hp := pow10 G.1
  have hu : w.testBit (low w) = true := low_bit (by omega) h0
  have hs := cm_sub G ha hw hu
  have hself := cm_self G ha hw hd hu
  have hl := sub_ltn hw hs
  have hP0 := bit_ne0 hself
  have hsw : subS (sd w (cmpN n nb a w (low w))) w := subS_sd (by omega)
  rw [be_parts G ha hw hd, reF_s (by omega) (by omega) (dj_and hd) (fun _ h => h) h0, pt_cm, be_parts G ha (sub_ltn hw hsw) (dj_sub hd hsw), be_one G ha hl (dj_sub hd hs) hP0 (cm_single G ha hw hu (low_bit (by omega) hP0)), reF_local G ha hw hd hu 1024 _ _ (fun _ h => h), reF_max 1024 _ (if 0 < tqN n nb hi a (cmpN n nb a w (low w)) then tqN n nb hi a (cmpN n nb a w (low w)) else 0)]
  generalize reF n nb a (sd w (cmpN n nb a w (low w))) (tqN n nb hi a) 1024 (sd w (cmpN n nb a w (low w))) 0 = R
  generalize tqN n nb hi a (cmpN n nb a w (low w)) = V
  (repeat' split) <;> omega
theorem jo_tch (G : GR n nb) {a k v : Nat} (ha : a < 2 ^ n) (hk : k < n) (hav : a.testBit v = false) : (joN n nb a k).testBit v = true ↔ (tchN nb a v).testBit k = true := by
  have hp := pow10 G.1
  rw [tch_t G ha]
  unfold joN
  by_cases hb : a.testBit k = true
  · rw [if_pos hb]
    have hsub := hang_sub2 (n := n) (nb := nb) hb
    have hl := sub_ltn ha hsub
    have hrl : reachN n nb (hangN n nb k a) < 1024 := by
      rw [rc_reach G hl]
      exact rc_lt (gr_1024 G) _ (by omega)
    rw [sd_t hrl, rc_reach G hl]
    refine ⟨fun h => ⟨hb, h.1⟩, fun h => ⟨h.2, Bool.eq_false_iff.mpr (fun g => ?_)⟩⟩
    rw [hsub v g] at hav; cases hav
  · rw [if_neg hb]
    exact ⟨fun h => by simp at h, fun h => absurd h.1 hb⟩
theorem tpV_max (G : GR n nb) {hi T : Nat → Nat} {a w v : Nat} (ha : a < 2 ^ n) (hav : a.testBit v = false) : tpV n (joN n nb a) hi T w v = if tallN n hi (tchN nb a v) < T (sd w (2 ^ v)) then T (sd w (2 ^ v)) else tallN n hi (tchN nb a v) := by
  unfold tpV
  rw [max_tall (n := n) (hi := hi) (X := tchN nb a v) (c := T (sd w (2 ^ v))) (P := fun k => (joN n nb a k).testBit v = true) (fun k => inferInstance) (fun k hk => jo_tch G ha hk hav) n (Nat.le_refl _)]
  show (if T (sd w (2 ^ v)) < tallN n hi (tchN nb a v) then tallN n hi (tchN nb a v) else T (sd w (2 ^ v))) = _
  split <;> split <;> omega
end GG
theorem pcN_sub {g : Nat → Nat} {s : Nat} (hs : s < 1024) (h0 : s ≠ 0) : subS (pcN g s) s := by
  unfold pcN; rw [if_neg h0]; exact sp_sub2 hs h0
theorem pop_less {w v : Nat} (hw : w < 1024) (hv : w.testBit v = true) : pop (sd w (2 ^ v)) < pop w := pop_smono hw (subS_sd hw) (fun g => by
  have := (sd_t (b := 2 ^ v) (i := v) hw).mp (by rw [g]; exact hv)
  rw [pow_t.mpr rfl] at this
  exact absurd this.2 (by decide))
theorem lb_spec {n : Nat} {b L : Nat → Nat} {s : Nat} : (∀ v, v < n → s.testBit v = true → lbN n b L s ≤ (if b v < L (sd s (2 ^ v)) then L (sd s (2 ^ v)) else b v)) ∧ (lbN n b L s = 1000 ∨ ∃ v, v < n ∧ s.testBit v = true ∧ lbN n b L s = (if b v < L (sd s (2 ^ v)) then L (sd s (2 ^ v)) else b v)) := (min_spec (p := fun v => s.testBit v) (f := fun v => if b v < L (sd s (2 ^ v)) then L (sd s (2 ^ v)) else b v) (c := 1000) n).2
/-- no height is great -/
theorem hl_bd {n : Nat} {g b : Nat → Nat} {K : Nat} (hn : n ≤ 10) : ∀ N w, w ≤ N → w < 2 ^ n → (∀ v, v < n → w.testBit v = true → b v ≤ K) → hlN n g b w ≤ K + pop w := by
  have hp := pow10 hn
  intro N
  induction N with
  | zero =>
    intro w hw _ _
    rw [show w = 0 by omega, hl_0]
    exact Nat.zero_le _
  | succ N ih =>
    intro w hwN hw hb
    by_cases h0 : w = 0
    · rw [h0, hl_0]; exact Nat.zero_le _
    · rw [hl_fold (by omega) h0]
      have hlow := low_bit (by omega) h0
      by_cases hc : pcN g w = w
      · rw [if_pos hc]
        have h1 := (lb_spec (n := n) (b := b) (L := hlN n g b) (s := w)).1 (low w) (bit_ltn hw hlow) hlow
        have h2 := sd_lss (by omega) hlow (show (2 ^ low w).testBit (low w) = true from pow_t.mpr rfl)
        have h3 := ih (sd w (2 ^ low w)) (by omega) (by omega) (fun v hv hvb => hb v hv (subS_sd (by omega) v hvb))
        have h4 := pop_less (by omega) hlow
        have h5 := hb (low w) (bit_ltn hw hlow) hlow
        split at h1 <;> omega
      · rw [if_neg hc]
        have hsub := pcN_sub (g := g) (by omega) h0
        have hle := subS_le hsub
        have h1 := ih (pcN g w) (by omega) (by omega) (fun v hv hvb => hb v hv (hsub v hvb))
        have h2 := sd_lss (by omega) hlow (pc_low (nb := g) h0)
        have h3 := ih (sd w (pcN g w)) (by omega) (by omega) (fun v hv hvb => hb v hv (subS_sd (by omega) v hvb))
        have h4 := pop_mono hsub
        have h5 : pop (sd w (pcN g w)) ≤ pop w := pop_mono (subS_sd (by omega))
        split <;> omega
/-- both least heights are the same -/
theorem hl_be {n : Nat} {nb : Nat → Nat} (G : GR n nb) {hi b : Nat → Nat} {a : Nat} (ha : a < 2 ^ n) (hb : ∀ v, v < n → a.testBit v = false → b v = tallN n hi (tchN nb a v) ∧ b v ≤ 10) : ∀ N w, w ≤ N → w < 2 ^ n → DJ w a → hlN n (pastN nb a) b w = beT n nb hi a w := by
  have hn := G.1
  have hp := pow10 hn
  intro N
  induction N with
  | zero =>
    intro w hwN hw hd
    have e : w = 0 := by omega
    subst e
    rw [hl_0, be_parts G ha hw hd, reF_0]
  | succ N ih =>
    intro w hwN hw hd
    by_cases h0 : w = 0
    · subst h0
      rw [hl_0, be_parts G ha hw hd, reF_0]
    · have hlow := low_bit (show w < 1024 by omega) h0
      have hln := bit_ltn hw hlow
      have hpc := pc_cm G ha hw hd h0
      rw [hl_fold (by omega) h0, hpc]
      by_cases hc : cmpN n nb a w (low w) = w
      · rw [if_pos hc, be_one G ha hw hd h0 hc]
        have hbl : ∀ v, v < n → w.testBit v = true → hlN n (pastN nb a) b (sd w (2 ^ v)) = beT n nb hi a (sd w (2 ^ v)) := fun v hv hvb => by
          have h2 := sd_lss (show w < 1024 by omega) hvb (show (2 ^ v).testBit v = true from pow_t.mpr rfl)
          exact ih _ (by omega) (by omega) (dj_sub hd (subS_sd (by omega)))
        refine lb_tp (f := fun v => if b v < hlN n (pastN nb a) b (sd w (2 ^ v)) then hlN n (pastN nb a) b (sd w (2 ^ v)) else b v) (g := fun v => tpV n (joN n nb a) hi (beT n nb hi a) w v + 1) hln hlow ?_ (fun v hv hvb => ?_)
        · have h2 := sd_lss (show w < 1024 by omega) hlow (show (2 ^ low w).testBit (low w) = true from pow_t.mpr rfl)
          have h3 := hl_bd (n := n) (g := pastN nb a) (b := b) (K := 10) hn _ (sd w (2 ^ low w)) (Nat.le_refl _) (by omega) (fun v hv hvb => (hb v hv (hd v (subS_sd (by omega) v hvb))).2)
          have h4 := pop_le (s := sd w (2 ^ low w)) (by omega)
          have h5 := (hb (low w) hln (hd _ hlow)).2
          try dsimp only
          split <;> omega
        · try dsimp only
          rw [tpV_max G ha (hd v hvb), hbl v hv hvb, (hb v hv (hd v hvb)).1]
      · rw [if_neg hc, be_two G ha hw hd h0]
        have hs := cm_sub G ha hw hlow
        have hle := subS_le hs
        have h2 := sd_lss (show w < 1024 by omega) hlow (cm_self G ha hw hd hlow)
        rw [ih (cmpN n nb a w (low w)) (by omega) (by omega) (dj_sub hd hs), ih (sd w (cmpN n nb a w (low w))) (by omega) (by omega) (dj_sub hd (subS_sd (by omega)))]
