/-! sums, and edges counted from both ends -/
def Sm (f : Nat → Nat) (n : Nat) : Nat := forN (fun k m => m + f k) n 0
theorem Sm_s (f : Nat → Nat) (n : Nat) : Sm f (n + 1) = Sm f n + f n := rfl
theorem Sm_congr {f g : Nat → Nat} : ∀ n, (∀ k, k < n → f k = g k) → Sm f n = Sm g n
  | 0, _ => rfl
  | n + 1, h => by rw [Sm_s, Sm_s, Sm_congr n (fun k hk => h k (by omega)), h n (by omega)]
theorem Sm_add {f g : Nat → Nat} : ∀ n, Sm (fun k => f k + g k) n = Sm f n + Sm g n
  | 0 => rfl
  | n + 1 => by rw [Sm_s, Sm_s, Sm_s, Sm_add n]; omega
theorem Sm_0 : ∀ n, Sm (fun _ => 0) n = 0
  | 0 => rfl
  | n + 1 => by rw [Sm_s, Sm_0 n]
theorem Sm_mul {f : Nat → Nat} {c : Nat} : ∀ n, Sm (fun k => c * f k) n = c * Sm f n
  | 0 => rfl
  | n + 1 => by rw [Sm_s, Sm_s, Sm_mul n, Nat.mul_add]
theorem Sm_swap {a : Nat → Nat → Nat} {m : Nat} : ∀ n, Sm (fun i => Sm (fun j => a i j) m) n = Sm (fun j => Sm (fun i => a i j) n) m
  | 0 => (Sm_0 m).symm
  | n + 1 => by
    rw [Sm_s, Sm_swap n, ← Sm_add]
    exact Sm_congr m (fun j _ => rfl)
theorem Sm_ext {f : Nat → Nat} {n : Nat} : ∀ m, n ≤ m → (∀ k, n ≤ k → k < m → f k = 0) → Sm f m = Sm f n
  | 0, h, _ => by rw [show n = 0 by omega]
  | m + 1, h, hf => by
    by_cases e : n = m + 1
    · rw [e]
    · rw [Sm_s, Sm_ext m (by omega) (fun k h1 h2 => hf k h1 (by omega)), hf m (by omega) (by omega)]
      omega
def ch (s k : Nat) : Nat := (s.testBit k).toNat
def ad (nb : Nat → Nat) (u v : Nat) : Nat := ((nb u).testBit v).toNat
theorem ch_t {s k : Nat} (h : s.testBit k = true) : ch s k = 1 := by unfold ch; rw [h]; rfl
theorem ch_f {s k : Nat} (h : s.testBit k = false) : ch s k = 0 := by unfold ch; rw [h]; rfl
theorem pop_Sm (s : Nat) : pop s = Sm (ch s) 10 := rfl
theorem ch_and (a b k : Nat) : ch (a &&& b) k = ch b k * ch a k := by
  unfold ch
  rw [Nat.testBit_and]
  cases a.testBit k <;> cases b.testBit k <;> rfl
theorem pop_and {nb : Nat → Nat} {u s : Nat} : pop (nb u &&& s) = Sm (fun v => ch s v * ad nb u v) 10 := by
  rw [pop_Sm]
  exact Sm_congr 10 (fun v _ => ch_and (nb u) s v)
theorem Sm_kron {f : Nat → Nat} {l : Nat} : ∀ n, l < n → Sm (fun u => ch (2 ^ l) u * f u) n = f l
  | 0, h => absurd h (Nat.not_lt_zero _)
  | n + 1, h => by
    rw [Sm_s]
    by_cases e : l = n
    · subst e
      rw [ch_t (pow_t.mpr rfl), show Sm (fun u => ch (2 ^ l) u * f u) l = 0 from ?_]
      · omega
      · rw [Sm_congr l (g := fun _ => 0) (fun k hk => ?_), Sm_0]
        rw [ch_f, Nat.zero_mul]
        cases hb : (2 ^ l).testBit k with
        | false => rfl
        | true => have := pow_t.mp hb; omega
    · rw [Sm_kron n (by omega), ch_f, Nat.zero_mul, Nat.add_zero]
      cases hb : (2 ^ l).testBit n with
      | false => rfl
      | true => have := pow_t.mp hb; omega
/-- pairs with one end in a, the other in b -/
def Qf (nb : Nat → Nat) (a b : Nat) : Nat := Sm (fun u => ch a u * Sm (fun v => ch b v * ad nb u v) 10) 10
theorem Qf_left {nb : Nat → Nat} {a b c d : Nat} (h : ∀ k, k < 10 → ch c k = ch a k + ch b k) : Qf nb c d = Qf nb a d + Qf nb b d := by
  unfold Qf
  rw [← Sm_add]
  exact Sm_congr 10 (fun u hu => by rw [h u hu, Nat.add_mul])
theorem Qf_right {nb : Nat → Nat} {a b c d : Nat} (h : ∀ k, k < 10 → ch c k = ch a k + ch b k) : Qf nb d c = Qf nb d a + Qf nb d b := by
  unfold Qf
  rw [← Sm_add]
  refine Sm_congr 10 (fun u hu => ?_)
  rw [← Nat.mul_add, ← Sm_add]
  congr 1
  exact Sm_congr 10 (fun v hv => by rw [h v hv, Nat.add_mul])
section GG
variable {n : Nat} {nb : Nat → Nat}
theorem ad_sym (G : GR n nb) {u v : Nat} (hu : u < 10) (hv : v < 10) : ad nb u v = ad nb v u := by
  have hn := G.1
  have key : ∀ u v, u < 10 → v < 10 → (nb u).testBit v = true → (nb v).testBit u = true := by
    intro u v hu hv h
    rcases Nat.lt_or_ge u n with g | g
    · exact gr_sym G g h
    · rw [G.2.2.1 u g hu] at h; simp at h
  unfold ad
  cases h1 : (nb u).testBit v <;> cases h2 : (nb v).testBit u
  · rfl
  · rw [key v u hv hu h2] at h1; cases h1
  · rw [key u v hu hv h1] at h2; cases h2
  · rfl
theorem Qf_sym (G : GR n nb) (a b : Nat) : Qf nb a b = Qf nb b a := by
  have h : ∀ a b, Qf nb a b = Sm (fun u => Sm (fun v => ch a u * (ch b v * ad nb u v)) 10) 10 := fun a b => Sm_congr 10 (fun u hu => Sm_mul 10 |>.symm)
  rw [h, h, Sm_swap 10]
  refine Sm_congr 10 (fun v hv => Sm_congr 10 (fun u hu => ?_))
  rw [ad_sym G hu hv, Nat.mul_left_comm]
theorem ad_irr (G : GR n nb) {v : Nat} (hv : v < 10) : ad nb v v = 0 := by
  unfold ad
  rcases Nat.lt_or_ge v n with g | g
  · rw [G.2.2.2.2 v g]; rfl
  · rw [G.2.2.1 v g hv]; simp
theorem Qf_one {l b : Nat} (hl : l < 10) : Qf nb (2 ^ l) b = pop (nb l &&& b) := by
  unfold Qf
  rw [Sm_kron 10 hl, pop_and]
theorem ch_low {s : Nat} (hs : s < 1024) (h0 : s ≠ 0) (k : Nat) : ch s k = ch (s &&& (s - 1)) k + ch (2 ^ low s) k := by
  have h := lowrest_t (i := k) hs h0
  have h2 : (s &&& (s - 1)).testBit k = true → ¬ k = low s := by
    rw [lowrest s hs h0, sd_t hs]
    rintro ⟨_, g⟩ e
    rw [e, pow_t.mpr rfl] at g; cases g
  by_cases e : k = low s
  · have h3 : (s &&& (s - 1)).testBit k = false := Bool.eq_false_iff.mpr (fun g => h2 g e)
    rw [ch_t (h.mpr (Or.inl e)), ch_f h3, ch_t (pow_t.mpr e)]
  · have h3 : (2 ^ low s).testBit k = false := Bool.eq_false_iff.mpr (fun g => e (pow_t.mp g))
    rw [ch_f h3, Nat.add_zero]
    cases hb : s.testBit k with
    | true =>
      rw [ch_t hb]
      rcases h.mp hb with g | g
      · exact absurd g e
      · rw [ch_t g]
    | false =>
      rw [ch_f hb]
      cases hc : (s &&& (s - 1)).testBit k with
      | true => rw [h.mpr (Or.inr hc)] at hb; cases hb
      | false => rw [ch_f hc]
/-- the class's count of edges within a set, twice -/
theorem in_Q (G : GR n nb) : ∀ s, s < 1024 → 2 * inN nb s = Qf nb s s := by
  intro s
  refine wh_ind (P := fun s => s < 1024 → 2 * inN nb s = Qf nb s s) (fun s => s) (fun s ih hs => ?_) s
  by_cases h0 : s = 0
  · subst h0
    rw [show inN nb 0 = 0 from lowN_0 _]
    unfold Qf
    rw [Sm_congr 10 (g := fun _ => 0) (fun k _ => by rw [ch_f (by simp), Nat.zero_mul]), Sm_0]
  · have hl := low_lt hs h0
    have hle : s &&& (s - 1) ≤ s - 1 := Nat.and_le_right
    have h1 := ih (s &&& (s - 1)) (by omega) (by omega)
    have hc : ∀ k, k < 10 → ch s k = ch (s &&& (s - 1)) k + ch (2 ^ low s) k := fun k _ => ch_low hs h0 k
    rw [in_s hs h0, Qf_left hc, Qf_right hc, Qf_right hc, Qf_sym G (s &&& (s - 1)) (2 ^ low s), Qf_one hl, Qf_one hl]
    have h3 : pop (nb (low s) &&& 2 ^ low s) = 0 := by
      rw [pop_and, Sm_kron 10 hl]; exact ad_irr G hl
    omega
theorem degs_Q (G : GR n nb) {s : Nat} (hs : s < 2 ^ n) : degsN n nb s = Qf nb s s := by
  have hn := G.1
  have h1 : degsN n nb s = Sm (fun k => if s.testBit k then pop (nb k &&& s) else 0) n := rfl
  rw [h1]
  unfold Qf
  rw [Sm_ext (n := n) 10 hn (fun k h2 h3 => ?_)]
  · refine Sm_congr n (fun k hk => ?_)
    cases hb : s.testBit k with
    | true => rw [if_pos rfl, ch_t hb, pop_and, Nat.one_mul]
    | false => rw [if_neg (by decide), ch_f hb, Nat.zero_mul]
  · rw [ch_f, Nat.zero_mul]
    cases hb : s.testBit k with
    | false => rfl
    | true => have := bit_ltn hs hb; omega
theorem edges_in (G : GR n nb) {s : Nat} (hs : s < 2 ^ n) : edgesN n nb s = inN nb s := by
  have hp := pow10 G.1
  unfold edgesN
  rw [degs_Q G hs, ← in_Q G s (by omega)]
  omega
theorem ch_cut {t : Nat} (hn : n ≤ 10) (ht : t < 2 ^ n) : ∀ k, k < 10 → ch (2 ^ n - 1) k = ch t k + ch (sd (2 ^ n - 1) t) k := by
  intro k hk
  have hp := pow10 hn
  have hp1 : 1 ≤ 2 ^ n := Nat.one_le_two_pow
  unfold ch
  rw [sd_bit _ _ _ (by omega)]
  cases h1 : (2 ^ n - 1).testBit k with
  | true => cases t.testBit k <;> rfl
  | false =>
    cases h2 : t.testBit k with
    | false => rfl
    | true => rw [all_t.mpr (bit_ltn ht h2)] at h1; cases h1
theorem cut_Q (G : GR n nb) {t : Nat} (ht : t < 2 ^ n) : cutC n nb t = Qf nb t (sd (2 ^ n - 1) t) := by
  have hn := G.1
  have hp := pow10 hn
  have hp1 : 1 ≤ 2 ^ n := Nat.one_le_two_pow
  have h1 : cutC n nb t = Sm (fun k => if t.testBit k then pop (sd (nb k) t) else 0) n := rfl
  rw [h1]
  unfold Qf
  rw [Sm_ext (n := n) 10 hn (fun k h2 h3 => ?_)]
  · refine Sm_congr n (fun k hk => ?_)
    cases hb : t.testBit k with
    | true =>
      rw [if_pos rfl, ch_t hb, ← pop_and, Nat.one_mul]
      congr 1
      refine eq_of_bits (fun i => ?_)
      rw [sd_t (gr_1024 G k (by omega)), and_t, sd_t (by omega), all_t]
      exact ⟨fun h => ⟨h.1, gr_lt G hk h.1, h.2⟩, fun h => ⟨h.1, h.2.2⟩⟩
    | false => rw [if_neg (by decide), ch_f hb, Nat.zero_mul]
  · rw [ch_f, Nat.zero_mul]
    cases hb : t.testBit k with
    | false => rfl
    | true => have := bit_ltn ht hb; omega
/-- edges on one side, on the other, and between -/
theorem cut_eq (G : GR n nb) {t : Nat} (ht : t < 2 ^ n) : inN nb (2 ^ n - 1) = inN nb t + cutC n nb t + inN nb (sd (2 ^ n - 1) t) := by
  have hn := G.1
  have hp := pow10 hn
  have hp1 : 1 ≤ 2 ^ n := Nat.one_le_two_pow
  have hc := ch_cut hn ht
  have h1 := in_Q G (2 ^ n - 1) (by omega)
  rw [Qf_left hc, Qf_right hc, Qf_right hc, Qf_sym G (sd (2 ^ n - 1) t) t, ← cut_Q G ht, ← in_Q G t (by omega), ← in_Q G _ (sd_lt (by omega))] at h1
  omega
theorem CEd_ok (G : GR n nb) {ed : Nat} (he : inN nb (2 ^ n - 1) = ed) (h20 : ed ≤ 20) : CEd n nb ed := ⟨h20, fun w hw => by
  have := cut_eq G hw
  omega⟩
theorem CQ_ok (G : GR n nb) {ed : Nat} (he : inN nb (2 ^ n - 1) = ed) {kind : Nat} (hk : kind = 0 ∨ kind = 1 ∨ kind = 3 ∨ kind = 4) : CQ n nb ed kind := by
  intro s v hs hv hsv
  have hn := G.1
  have hp := pow10 hn
  have hp1 : 1 ≤ 2 ^ n := Nat.one_le_two_pow
  have hw := or_ltn hs hv
  rcases hk with e | e | e | e
  · subst e
    show pop (pastN nb s v) = pop (seesN n nb s v)
    rw [sees_past G hs hv hsv]
  · subst e
    show pop ((s ||| 2 ^ v) &&& rcN nb (sd (2 ^ n - 1) (s ||| 2 ^ v))) = rowC n nb (s ||| 2 ^ v)
    generalize s ||| 2 ^ v = t at hw
    have hsl : sd (2 ^ n - 1) t < 1024 := sd_lt (by omega)
    rw [pop_Sm, Sm_ext (n := n) 10 hn (fun k h2 h3 => ?_)]
    · refine Sm_congr n (fun k hk => ?_)
      by_cases hc : t.testBit k = true ∧ ¬ sd (nb k) t = 0
      · rw [if_pos hc]
        refine ch_t (and_t.mpr ⟨hc.1, (rc_t _ hsl).mpr ?_⟩)
        have hnk := gr_1024 G k (by omega)
        have hb := (sd_t hnk).mp (low_bit (sd_lt hnk) hc.2)
        refine ⟨low (sd (nb k) t), (sd_t (by omega)).mpr ⟨all_t.mpr (gr_lt G hk hb.1), hb.2⟩, gr_sym G hk hb.1⟩
      · rw [if_neg hc]
        refine ch_f (Bool.eq_false_iff.mpr (fun h => hc ?_))
        obtain ⟨h1, h2⟩ := and_t.mp h
        obtain ⟨j, j1, j2⟩ := (rc_t _ hsl).mp h2
        have hj := (sd_t (show 2 ^ n - 1 < 1024 by omega)).mp j1
        have hjn := all_t.mp hj.1
        refine ⟨h1, fun h0 => ?_⟩
        have : (sd (nb k) t).testBit j = true := (sd_t (gr_1024 G k (by omega))).mpr ⟨gr_sym G hjn j2, hj.2⟩
        rw [h0] at this; simp at this
    · refine ch_f (Bool.eq_false_iff.mpr (fun h => ?_))
      have := bit_ltn hw (and_t.mp h).1
      omega
  · subst e
    show ed - inN nb (s ||| 2 ^ v) - inN nb (sd (2 ^ n - 1) (s ||| 2 ^ v)) = cutC n nb (s ||| 2 ^ v)
    have := cut_eq G hw
    omega
  · subst e
    show pop (sd (pastN nb s v) (nb v)) = pop (sd (seesN n nb s v) (nb v))
    rw [sees_past G hs hv hsv]
end GG
