/-! the reference's square, and trees on both sides -/
theorem tau_hom {α β : Type} [Lean.Grind.CommRing α] [Lean.Grind.CommRing β] {φ : α → β} (h0 : φ 0 = 0) (h1 : φ 1 = 1) (ha : ∀ x y, φ (x + y) = φ x + φ y) (hm : ∀ x y, φ (x * y) = φ x * φ y) {w : Nat → Nat → α} : ∀ (f S : Nat), φ (tauF w f S) = tauF (fun u v => φ (w u v)) f S := by
  have hSg : ∀ (k : Nat) (g : Nat → α), φ (Sg g k) = Sg (fun i => φ (g i)) k := by
    intro k g
    induction k with
    | zero => exact h0
    | succ k ih => rw [Sg_s, Sg_s, ha, ih]
  have hif : ∀ (p : Prop) [Decidable p] (x : α), φ (if p then x else 0) = if p then φ x else 0 := by
    intro p _ x
    by_cases h : p
    · rw [if_pos h, if_pos h]
    · rw [if_neg h, if_neg h, h0]
  intro f
  induction f with
  | zero => intro S; exact h0
  | succ f ih =>
    intro S
    simp only [tauF]
    by_cases e0 : S = 0
    · rw [if_pos e0, if_pos e0, h0]
    · rw [if_neg e0, if_neg e0]
      by_cases e1 : S &&& (S - 1) = 0
      · rw [if_pos e1, if_pos e1, h1]
      · rw [if_neg e1, if_neg e1]
        unfold Su
        rw [hSg]
        refine Sg_congr 1024 (fun B _ => ?_)
        try dsimp only
        rw [hif, hif, hm, hm, ih, ih]
        unfold wS
        rw [hSg]
        have e : Sg (fun i => φ (if B.testBit i = true then w (low S) i else 0)) 10 = Sg (fun b => if B.testBit b = true then φ (w (low S) b) else 0) 10 := Sg_congr 10 (fun b _ => hif _ _)
        rw [e]
theorem last_ok {n s : Nat} : ∀ k, (∀ a, a < k → s.testBit a = true → s.testBit (forN (fun v l => if s.testBit v then v else l) k 0) = true ∧ forN (fun v l => if s.testBit v then v else l) k 0 < k ∧ a ≤ forN (fun v l => if s.testBit v then v else l) k 0) := by
  intro k
  induction k with
  | zero => exact fun a ha => absurd ha (Nat.not_lt_zero _)
  | succ k ih =>
    intro a ha hsa
    show s.testBit (if s.testBit k then k else _) = true ∧ (if s.testBit k then k else _) < k + 1 ∧ a ≤ (if s.testBit k then k else _)
    cases hb : s.testBit k with
    | true => rw [if_pos rfl]; exact ⟨hb, by omega, by omega⟩
    | false =>
      rw [if_neg (by decide)]
      have hak : a ≠ k := fun g => by rw [g, hb] at hsa; cases hsa
      have := ih a (by omega) hsa
      exact ⟨this.1, by omega, this.2.2⟩
/-- how many of s lie below v -/
def cnB (s v : Nat) : Nat := Sm (ch s) v
theorem cn_s (s v : Nat) : cnB s (v + 1) = cnB s v + ch s v := rfl
theorem cn_mono {s : Nat} : ∀ {u v : Nat}, u ≤ v → cnB s u ≤ cnB s v := by
  intro u v h
  induction v with
  | zero => rw [show u = 0 by omega]; exact Nat.le_refl _
  | succ v ih =>
    by_cases e : u = v + 1
    · rw [e]; exact Nat.le_refl _
    · have := ih (by omega)
      rw [cn_s]; omega
theorem cn_lt {s u v : Nat} (h : u < v) (hu : s.testBit u = true) : cnB s u < cnB s v := by
  have h1 := cn_mono (s := s) (show u + 1 ≤ v by omega)
  rw [cn_s, ch_t hu] at h1
  omega
theorem cn_le {s : Nat} : ∀ v, cnB s v ≤ v
  | 0 => Nat.le_refl _
  | v + 1 => by
    have := cn_le (s := s) v
    rw [cn_s]
    have : ch s v ≤ 1 := by unfold ch; cases s.testBit v <;> simp
    omega
theorem cn_ex {s : Nat} : ∀ V a, a < cnB s V → ∃ v, v < V ∧ s.testBit v = true ∧ cnB s v = a
  | 0, a, h => absurd h (Nat.not_lt_zero _)
  | V + 1, a, h => by
    by_cases e : a < cnB s V
    · obtain ⟨v, h1, h2⟩ := cn_ex V a e
      exact ⟨v, by omega, h2⟩
    · rw [cn_s] at h
      cases hb : s.testBit V with
      | true => rw [ch_t hb] at h; exact ⟨V, by omega, hb, by omega⟩
      | false => rw [ch_f hb] at h; omega
theorem sqW_at {nb : Nat → Nat} {s v row : Nat} {f : Nat → Int64} : ∀ W, W ≤ 10 → (forN (sqW nb s v row) W (f, 0)).2 = cnB s W ∧ (∀ u, u < W → s.testBit u = true → (forN (sqW nb s v row) W (f, 0)).1 (10 * row + cnB s u) = sqV nb s v u) ∧ ∀ r c, c < 10 → r ≠ row → (forN (sqW nb s v row) W (f, 0)).1 (10 * r + c) = f (10 * r + c) := by
  intro W
  induction W with
  | zero => exact fun _ => ⟨rfl, fun u hu => absurd hu (Nat.not_lt_zero _), fun r c _ _ => rfl⟩
  | succ W ih =>
    intro hW
    obtain ⟨i1, i2, i3⟩ := ih (by omega)
    generalize hq : forN (sqW nb s v row) W (f, 0) = q at i1 i2 i3
    have e : forN (sqW nb s v row) (W + 1) (f, 0) = sqW nb s v row W q := by rw [← hq]; rfl
    rw [e]
    have hcl := cn_le (s := s) W
    unfold sqW
    by_cases hb : s.testBit W = true
    · rw [if_pos hb]
      refine ⟨by show q.2 + 1 = _; rw [i1, cn_s, ch_t hb], fun u hu hsu => ?_, fun r c hc hr => ?_⟩
      · show vp_updL q.1 (10 * row + q.2) (sqV nb s v W) (10 * row + cnB s u) = _
        by_cases eu : u = W
        · rw [eu, i1, vpu_s]
        · have := cn_lt (show u < W by omega) hsu
          rw [i1, vpu_n (by omega), i2 u (by omega) hsu]
      · show vp_updL q.1 (10 * row + q.2) (sqV nb s v W) (10 * r + c) = _
        rw [i1, vpu_n (by omega), i3 r c hc hr]
    · rw [if_neg hb]
      have hbf : s.testBit W = false := Bool.eq_false_iff.mpr hb
      refine ⟨by rw [i1, cn_s, ch_f hbf]; rfl, fun u hu hsu => ?_, i3⟩
      have eu : u ≠ W := fun g => by rw [g] at hsu; exact hb hsu
      exact i2 u (by omega) hsu
theorem sqN_at {nb : Nat → Nat} {s l : Nat} {f : Nat → Int64} (hl : l ≤ 9) : ∀ V, V ≤ l → (forN (sqR nb s l) V (f, 0)).2 = cnB s V ∧ ∀ v u, v < V → u < l → s.testBit v = true → s.testBit u = true → (forN (sqR nb s l) V (f, 0)).1 (10 * cnB s v + cnB s u) = sqV nb s v u := by
  intro V
  induction V with
  | zero => exact fun _ => ⟨rfl, fun v u hv => absurd hv (Nat.not_lt_zero _)⟩
  | succ V ih =>
    intro hV
    obtain ⟨i1, i2⟩ := ih (by omega)
    generalize hq : forN (sqR nb s l) V (f, 0) = q at i1 i2
    have e : forN (sqR nb s l) (V + 1) (f, 0) = sqR nb s l V q := by rw [← hq]; rfl
    rw [e]
    unfold sqR
    by_cases hb : s.testBit V = true
    · rw [if_pos hb]
      obtain ⟨j1, j2, j3⟩ := sqW_at (nb := nb) (s := s) (v := V) (row := q.2) (f := q.1) l (by omega)
      refine ⟨by show q.2 + 1 = _; rw [i1, cn_s, ch_t hb], fun v u hv hu hsv hsu => ?_⟩
      show (forN (sqW nb s V q.2) l (q.1, 0)).1 _ = _
      have hcu := cn_le (s := s) u
      by_cases ev : v = V
      · rw [ev, ← i1]; exact j2 u hu hsu
      · have := cn_lt (show v < V by omega) hsv
        rw [j3 _ _ (by omega) (by omega), i2 v u (by omega) hu hsv hsu]
    · rw [if_neg hb]
      have hbf : s.testBit V = false := Bool.eq_false_iff.mpr hb
      refine ⟨by rw [i1, cn_s, ch_f hbf]; rfl, fun v u hv hu hsv hsu => ?_⟩
      have ev : v ≠ V := fun g => by rw [g] at hsv; exact hb hsv
      exact i2 v u (by omega) hu hsv hsu
def adZ (nb : Nat → Nat) (u v : Nat) : Int := if u < 10 ∧ v < 10 ∧ (nb u).testBit v = true then 1 else 0
def adQ (nb : Nat → Nat) (u v : Nat) : Rat := ((adZ nb u v : Int) : Rat)
section GG
variable {n : Nat} {nb : Nat → Nat}
theorem adZ_sym (G : GR n nb) : ∀ u v, adZ nb u v = adZ nb v u := by
  intro u v
  unfold adZ
  by_cases c : u < 10 ∧ v < 10 ∧ (nb u).testBit v = true
  · rw [if_pos c, if_pos ⟨c.2.1, c.1, adj10 G c.1 c.2.2⟩]
  · rw [if_neg c, if_neg (fun g => c ⟨g.2.1, g.1, adj10 G g.1 g.2.2⟩)]
theorem natZ_Sm {f : Nat → Nat} : ∀ m, ((Sm f m : Nat) : Int) = Sg (fun k => ((f k : Nat) : Int)) m
  | 0 => rfl
  | m + 1 => by rw [Sm_s, Sg_s, Int.natCast_add, natZ_Sm m]
theorem wS_adQ (G : GR n nb) {s u : Nat} (hs : s < 1024) (hu : u < 10) : wS (adQ nb) u (sd s (2 ^ u)) = (((pop (nb u &&& s) : Nat) : Int) : Rat) := by
  have hS : ∀ (k : Nat) (f : Nat → Int), ((Sg f k : Int) : Rat) = Sg (fun i => ((f i : Int) : Rat)) k := by
    intro k f
    induction k with
    | zero => rfl
    | succ k ih => rw [Sg_s, Sg_s, Rat.intCast_add, ih]
  rw [pop_and, natZ_Sm, hS]
  unfold wS
  refine Sg_congr 10 (fun b hb => ?_)
  try dsimp only
  unfold adQ adZ ch ad
  by_cases e : b = u
  · subst e
    have hirr := ad_irr G hb
    unfold ad at hirr
    rw [if_neg (fun g => by have := ((sd_t hs).mp g).2; rw [pow_t.mpr rfl] at this; cases this), hirr, Nat.mul_zero]
    rfl
  · have hbe : (sd s (2 ^ u)).testBit b = s.testBit b := by
      rw [sd_bit _ _ _ hs, show Nat.testBit (2 ^ u) b = false from Bool.eq_false_iff.mpr (fun g => e (pow_t.mp g))]; simp
    rw [hbe]
    cases h1 : s.testBit b with
    | false => rw [if_neg (by decide)]; simp
    | true =>
      rw [if_pos rfl]
      cases h2 : (nb u).testBit b with
      | false => rw [if_neg (fun g => absurd g.2.2 (by decide))]; rfl
      | true => rw [if_pos ⟨hu, hb, rfl⟩]; rfl
end GG
