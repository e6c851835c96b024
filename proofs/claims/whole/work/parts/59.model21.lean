/-! heights of the reference -/
theorem upd_upd {g : Nat → Int32} {i : Nat} {x y : Int32} : upd (upd g i x) i y = upd g i y := by
  funext j
  by_cases e : j = i
  · rw [e, pk_us, pk_us]
  · rw [pk_un e, pk_un e, pk_un e]
theorem hstep_sub {n : Nat} {nb : Nat → Nat} {s g : Nat} (hg : subS g s) : subS (hstep n nb s g) s := by
  refine forN_inv (I := fun _ (x : Nat) => subS x s) hg (fun k x hk hx => ?_) n (Nat.le_refl _)
  split
  · intro i hi
    rw [Nat.testBit_or, Nat.testBit_and] at hi
    cases h1 : x.testBit i with
    | true => exact hx i h1
    | false => rw [h1] at hi; cases h2 : s.testBit i with
      | true => rfl
      | false => rw [h2] at hi; simp at hi
  · exact hx
theorem hang_sub {n : Nat} {nb : Nat → Nat} {v s : Nat} (hv : s.testBit v = true) : subS (hangN n nb v s) s := by
  unfold hangN
  suffices h : ∀ k, subS (itN (hstep n nb s) k (2 ^ v)) s from h 1024
  intro k
  induction k with
  | zero => intro i hi; show s.testBit i = true; rw [show itN (hstep n nb s) 0 (2 ^ v) = 2 ^ v from rfl, Nat.testBit_two_pow] at hi; rw [← of_decide_eq_true hi]; exact hv
  | succ k ih => exact hstep_sub ih
/-- what the part of k ahead is joined to -/
def joN (n : Nat) (nb : Nat → Nat) (a k : Nat) : Nat := if a.testBit k then sd (reachN n nb (hangN n nb k a)) (hangN n nb k a) else 0
def tpV (n : Nat) (jo hi b : Nat → Nat) (w v : Nat) : Nat := forN (fun k h => if (jo k).testBit v = true ∧ h < hi k then hi k else h) n (b (sd w (2 ^ v)))
def tpN (n : Nat) (jo hi b : Nat → Nat) (w : Nat) : Nat := forN (fun v m => if w.testBit v = true then (if tpV n jo hi b w v + 1 < m then tpV n jo hi b w v + 1 else m) else m) n 1000
theorem tpV_le {n : Nat} {jo hi b : Nat → Nat} {w v : Nat} (hn : n ≤ 10) (hh : ∀ j, j < 10 → hi j ≤ 1000) (hb : b (sd w (2 ^ v)) ≤ 1000) : tpV n jo hi b w v ≤ 1000 := by
  refine forN_inv (I := fun _ (h : Nat) => h ≤ 1000) hb (fun k h hk hx => ?_) n (Nat.le_refl _)
  split
  · exact hh k (by omega)
  · exact hx
theorem tpN_le {n : Nat} {jo hi b : Nat → Nat} {w : Nat} : tpN n jo hi b w ≤ 1000 := by
  refine forN_inv (I := fun _ (h : Nat) => h ≤ 1000) (Nat.le_refl _) (fun k h hk hx => ?_) n (Nat.le_refl _)
  split
  · split
    · omega
    · exact hx
  · exact hx
def ptN (n : Nat) (nb : Nat → Nat) (a w rest : Nat) : Nat := sd (hangN n nb (low rest) (w ||| a)) a
def reF (n : Nat) (nb : Nat → Nat) (a w : Nat) (val : Nat → Nat) : Nat → Nat → Nat → Nat
  | 0, _, m => m
  | f + 1, rest, m => if rest = 0 then m else reF n nb a w val f (sd rest (ptN n nb a w rest)) (if m < val (ptN n nb a w rest) then val (ptN n nb a w rest) else m)
def beX (n : Nat) (nb hi : Nat → Nat) (a w : Nat) (T : Nat → Nat) : Nat := reF n nb a w (fun p => if p = w then tpN n (joN n nb a) hi T w else T p) 1024 w 0
def beS (n : Nat) (nb hi : Nat → Nat) (a : Nat) : Nat → ((Nat → Nat) × (Nat → Int32)) → ((Nat → Nat) × (Nat → Int32)) := fun w q => if w &&& a = 0 then (upN q.1 w (beX n nb hi a w q.1), upd q.2 w (nI (beX n nb hi a w q.1))) else q
def beP (n : Nat) (nb hi : Nat → Nat) (a : Nat) (g : Nat → Int32) : (Nat → Nat) × (Nat → Int32) := forN (beS n nb hi a) (2 ^ n) ((fun _ => 0), g)
theorem pt_ok {n : Nat} {nb : Nat → Nat} {a w rest : Nat} (ha : a < 1024) (hw : w < 1024) (hwa : w &&& a = 0) (hr : subS rest w) (hr0 : ¬ rest = 0) : subS (ptN n nb a w rest) w ∧ (ptN n nb a w rest).testBit (low rest) = true ∧ ptN n nb a w rest &&& a = 0 := by
  have hrl : rest < 1024 := Nat.lt_of_le_of_lt (subS_le hr) hw
  have hlb := low_bit hrl hr0
  have hl := low_lt hrl hr0
  have hwl := hr _ hlb
  have hwa2 : ∀ i, w.testBit i = true → a.testBit i = false := fun i hi => by
    have h := congrArg (fun x => x.testBit i) hwa
    simp only [Nat.testBit_and, Nat.zero_testBit, hi, Bool.true_and] at h
    exact h
  have hol : w ||| a < 1024 := or_lt hw ha
  have hhl := hangN_lt (n := n) (nb := nb) hl hol
  have hsub := hang_sub (n := n) (nb := nb) (v := low rest) (s := w ||| a) (by rw [Nat.testBit_or, hwl]; rfl)
  unfold ptN
  refine ⟨fun i hi => ?_, ?_, ?_⟩
  · rw [sd_bit _ _ _ hhl] at hi
    have h1 := hsub i (by revert hi; cases (hangN n nb (low rest) (w ||| a)).testBit i <;> simp)
    rw [Nat.testBit_or] at h1
    cases h2 : w.testBit i with
    | true => rfl
    | false => rw [h2, Bool.false_or] at h1; rw [h1] at hi; simp at hi
  · rw [sd_bit _ _ _ hhl, hang_self, hwa2 _ hwl]; rfl
  · apply Nat.eq_of_testBit_eq
    intro i
    rw [Nat.testBit_and, sd_bit _ _ _ hhl, Nat.zero_testBit]
    cases a.testBit i <;> simp
theorem subS_sdc {a b c : Nat} (ha : a < 1024) (h : subS a c) : subS (sd a b) c := fun i hi => by
  rw [sd_bit _ _ _ ha] at hi
  exact h i (by revert hi; cases a.testBit i <;> simp)
theorem reF_fuel {n : Nat} {nb : Nat → Nat} {a w : Nat} {val : Nat → Nat} (ha : a < 1024) (hw : w < 1024) (hwa : w &&& a = 0) : ∀ (f g rest m : Nat), subS rest w → rest ≤ f → rest ≤ g → reF n nb a w val f rest m = reF n nb a w val g rest m
  | 0, 0, rest, m, h0, h1, h2 => rfl
  | 0, g + 1, rest, m, h0, h1, h2 => by
    have : rest = 0 := by omega
    subst this; simp [reF]
  | f + 1, 0, rest, m, h0, h1, h2 => by
    have : rest = 0 := by omega
    subst this; simp [reF]
  | f + 1, g + 1, rest, m, h0, h1, h2 => by
    simp only [reF]
    by_cases h : rest = 0
    · rw [if_pos h, if_pos h]
    · rw [if_neg h, if_neg h]
      have hrl : rest < 1024 := Nat.lt_of_le_of_lt (subS_le h0) hw
      have h3 := sd_lss hrl (low_bit hrl h) (pt_ok (n := n) (nb := nb) ha hw hwa h0 h).2.1
      exact reF_fuel ha hw hwa f g _ _ (subS_sdc hrl h0) (by omega) (by omega)
theorem reF_s {n : Nat} {nb : Nat → Nat} {a w : Nat} {val : Nat → Nat} (ha : a < 1024) (hw : w < 1024) (hwa : w &&& a = 0) {rest m : Nat} (h0 : subS rest w) (h : ¬ rest = 0) : reF n nb a w val 1024 rest m = reF n nb a w val 1024 (sd rest (ptN n nb a w rest)) (if m < val (ptN n nb a w rest) then val (ptN n nb a w rest) else m) := by
  have hrl : rest < 1024 := Nat.lt_of_le_of_lt (subS_le h0) hw
  have h3 := sd_lss hrl (low_bit hrl h) (pt_ok (n := n) (nb := nb) ha hw hwa h0 h).2.1
  rw [show reF n nb a w val 1024 rest m = reF n nb a w val (1023 + 1) rest m from rfl]
  rw [show reF n nb a w val (1023 + 1) rest m = (if rest = 0 then m else reF n nb a w val 1023 (sd rest (ptN n nb a w rest)) (if m < val (ptN n nb a w rest) then val (ptN n nb a w rest) else m)) from rfl, if_neg h]
  exact reF_fuel ha hw hwa _ _ _ _ (subS_sdc hrl h0) (by omega) (by omega)
theorem reF_le {n : Nat} {nb : Nat → Nat} {a w : Nat} {val : Nat → Nat} (ha : a < 1024) (hw : w < 1024) (hwa : w &&& a = 0) (hv : ∀ p, subS p w → p &&& a = 0 → val p ≤ 1000) : ∀ (f rest m : Nat), subS rest w → m ≤ 1000 → reF n nb a w val f rest m ≤ 1000
  | 0, rest, m, h0, hm => hm
  | f + 1, rest, m, h0, hm => by
    simp only [reF]
    by_cases h : rest = 0
    · rw [if_pos h]; exact hm
    · rw [if_neg h]
      have hrl : rest < 1024 := Nat.lt_of_le_of_lt (subS_le h0) hw
      have h4 := pt_ok (n := n) (nb := nb) ha hw hwa h0 h
      have h3 := hv _ h4.1 h4.2.2
      refine reF_le ha hw hwa hv f _ _ (subS_sdc hrl h0) ?_
      split <;> omega
theorem beX_le {n : Nat} {nb hi : Nat → Nat} {a w : Nat} {T : Nat → Nat} (ha : a < 1024) (hw : w < 1024) (hwa : w &&& a = 0) (hT : ∀ u, u < w → u &&& a = 0 → T u ≤ 1000) : beX n nb hi a w T ≤ 1000 := by
  refine reF_le ha hw hwa (fun p hp hpa => ?_) 1024 w 0 (fun _ h => h) (by omega)
  split
  · exact tpN_le
  · rename_i hne
    have := subS_le hp
    exact hT p (by omega) hpa
theorem be_at {n : Nat} {nb hi : Nat → Nat} {a : Nat} {g : Nat → Int32} (hn : n ≤ 10) (ha : a < 1024) : ∀ j, j ≤ 2 ^ n → ∀ u, u < j → u &&& a = 0 → (forN (beS n nb hi a) j ((fun _ => 0), g)).2 u = nI ((forN (beS n nb hi a) j ((fun _ => 0), g)).1 u) ∧ (forN (beS n nb hi a) j ((fun _ => 0), g)).1 u ≤ 1000 := by
  have hp := pow10 hn
  refine forN_inv (I := fun j (q : (Nat → Nat) × (Nat → Int32)) => ∀ u, u < j → u &&& a = 0 → q.2 u = nI (q.1 u) ∧ q.1 u ≤ 1000) (fun u hu => absurd hu (Nat.not_lt_zero _)) (fun w q hw hq u hu hua => ?_)
  unfold beS
  split
  · rename_i hwa
    have hX := beX_le (n := n) (nb := nb) (hi := hi) (T := q.1) ha (show w < 1024 by omega) hwa (fun u h1 h2 => (hq u h1 h2).2)
    show upd q.2 w _ u = nI (upN q.1 w _ u) ∧ upN q.1 w _ u ≤ 1000
    unfold upN
    by_cases e : u = w
    · rw [e, pk_us, if_pos rfl]; exact ⟨rfl, hX⟩
    · rw [pk_un e, if_neg e]; exact hq u (by omega) hua
  · rename_i hwa
    by_cases e : u = w
    · rw [e] at hua; exact absurd hua hwa
    · exact hq u (by omega) hua
section MM
variable {xs : Nat → Int32} {Ls : Nat} {A : Nat → Nat → Int32} {B : Nat → Nat → Int64} {F : Nat → Int32} {sw : Bool} {n : Nat} {nb : Nat → Nat}
theorem ev_top (hM : MI A F n nb) {hi : Nat → Nat} (hH : ∀ j, j < 10 → A 33 j = nI (hi j) ∧ hi j ≤ 1000) {jo b : Nat → Nat} {w : Nat} (hw : w < 1024) (hJ : ∀ j, j < n → A 35 j = nI (jo j) ∧ jo j < 1024) (hB : ∀ v, v < n → w.testBit v = true → A 34 (sd w (2 ^ v)) = nI (b (sd w (2 ^ v))) ∧ b (sd w (2 ^ v)) ≤ 1000) : mv_Ev xs Ls 1 113 [.ref 28, .int (nI w)] (MW A B F sw) (some (.int (nI (tpN n jo hi b w))), MW A B F sw, 0, 0) := by
  refine ev_of_wp rfl rfl rfl ?_
  have hn := hM.1
  have hp := pow10 hn
  have hp1 : 1 ≤ 2 ^ n := Nat.one_le_two_pow
  have hal := all_lt hn
  refine wp_go (f' := (6, [.ref 28, .int (nI w), .int (nI 1000), .int (nI 0), .retAddr 0, .retAddr 0, .retAddr 0], [], MW A B F sw, 0, 0)) 4 rfl ?_
  refine for_ind (P := fun (v m : Nat) => m ≤ 1000 → ∀ e4 e5 e6 : Value, mv_Wp xs Ls 0 6 false (some .int) mv_c113 (6, [.ref 28, .int (nI w), .int (nI m), .int (nI v), e4, e5, e6], [], MW A B F sw, 0, 0) (some (.int (nI (tpN n jo hi b w))), MW A B F sw, 0, 0)) (f := fun v m => if w.testBit v = true then (if tpV n jo hi b w v + 1 < m then tpV n jo hi b w v + 1 else m) else m) (n := n) ?_ n 1000 (Nat.le_refl _) ?_ (Nat.le_refl _) _ _ _
  · intro v m hv ih hm e4 e5 e6
    cases hsb : w.testBit v with
    | false =>
      rw [if_neg (by rw [hsb]; decide)] at ih
      refine wp_go (f' := (11, [.ref 28, .int (nI w), .int (nI m), .int (nI v), e4, e5, e6], [.int (F 6), .int (nI v)], MW A B F sw, 0, 0)) 3 rfl ?_
      rw [hM.2.1]
      refine wp_go (f' := ((if (nI n) ≤ (nI v) then 123 else 14), [.ref 28, .int (nI w), .int (nI m), .int (nI v), e4, e5, e6], [], MW A B F sw, 0, 0)) 1 rfl ?_
      refine wp_ite (fun h9 => absurd h9 (nI_ge hv (by omega))) (fun _ => ?_)
      refine wp_go (f' := (19, [.ref 28, .int (nI w), .int (nI m), .int (nI v), e4, e5, e6], [.int (((nI w) >>> ((nI v) &&& 31)) &&& (nI 1))], MW A B F sw, 0, 0)) 5 rfl ?_
      rw [bx_bit (by omega) (by omega)]
      refine wp_go (f' := ((if ¬ (bI (w.testBit v)) = (nI 1) then 117 else 23), [.ref 28, .int (nI w), .int (nI m), .int (nI v), e4, e5, e6], [], MW A B F sw, 0, 0)) 2 rfl ?_
      refine wp_ite (fun _ => ?_) (fun h9 => absurd (by rw [hsb]; decide) h9)
      refine wp_go (f' := (120, [.ref 28, .int (nI w), .int (nI m), .int ((nI v) + 1), e4, e5, e6], [], MW A B F sw, 0, 0)) 1 rfl ?_
      rw [nI_1]
      refine wp_go (f' := (6, [.ref 28, .int (nI w), .int (nI m), .int (nI (v + 1)), e4, e5, e6], [], MW A B F sw, 0, 0)) 1 rfl ?_
      exact ih hm _ _ _
    | true =>
      rw [if_pos hsb] at ih
      have hbl := (hB v hv hsb).2
      have hsl : sd w (2 ^ v) < 1024 := sd_lt hw
      have hVl := tpV_le (jo := jo) (b := b) (w := w) (v := v) hn (fun j hj => (hH j hj).2) hbl
      refine wp_go (f' := (11, [.ref 28, .int (nI w), .int (nI m), .int (nI v), e4, e5, e6], [.int (F 6), .int (nI v)], MW A B F sw, 0, 0)) 3 rfl ?_
      rw [hM.2.1]
      refine wp_go (f' := ((if (nI n) ≤ (nI v) then 123 else 14), [.ref 28, .int (nI w), .int (nI m), .int (nI v), e4, e5, e6], [], MW A B F sw, 0, 0)) 1 rfl ?_
      refine wp_ite (fun h9 => absurd h9 (nI_ge hv (by omega))) (fun _ => ?_)
      refine wp_go (f' := (19, [.ref 28, .int (nI w), .int (nI m), .int (nI v), e4, e5, e6], [.int (((nI w) >>> ((nI v) &&& 31)) &&& (nI 1))], MW A B F sw, 0, 0)) 5 rfl ?_
      rw [bx_bit (by omega) (by omega)]
      refine wp_go (f' := ((if ¬ (bI (w.testBit v)) = (nI 1) then 117 else 23), [.ref 28, .int (nI w), .int (nI m), .int (nI v), e4, e5, e6], [], MW A B F sw, 0, 0)) 2 rfl ?_
      refine wp_ite (fun h9 => absurd h9 (fun h8 => h8 (bI_t hsb))) (fun _ => ?_)
      refine wp_go (f' := (27, [.ref 28, .int (nI w), .int (nI m), .int (nI v), e4, e5, e6], [.int ((nI 1) <<< ((nI v) &&& 31)), .int (nI w)], MW A B F sw, 0, 0)) 4 rfl ?_
      rw [bx_one (by omega)]
      refine wp_go (f' := (30, [.ref 28, .int (nI w), .int (nI m), .int (nI v), e4, e5, e6], [.int ((nI w) &&& ((nI (2 ^ v)) ^^^ (-1)))], MW A B F sw, 0, 0)) 3 rfl ?_
      rw [bx_sd (by omega)]
      refine wp_go (f' := (38, [.ref 28, .int (nI w), .int (nI m), .int (nI v), .int (nI (sd w (2 ^ v))), e5, e6], [.int (nI (sd w (2 ^ v))), .ref 34], MW A B F sw, 0, 0)) 4 rfl ?_
      refine wp_iald rfl rfl (by omega) (by decide) ?_
      rw [(hB v hv hsb).1]
      refine wp_go (f' := (44, [.ref 28, .int (nI w), .int (nI m), .int (nI v), .int (nI (sd w (2 ^ v))), .int (nI (b (sd w (2 ^ v)))), .int (nI 0)], [], MW A B F sw, 0, 0)) 3 rfl ?_
      refine for_ind (P := fun (k h : Nat) => h ≤ 1000 → mv_Wp xs Ls 0 6 false (some .int) mv_c113 (44, [.ref 28, .int (nI w), .int (nI m), .int (nI v), .int (nI (sd w (2 ^ v))), .int (nI h), .int (nI k)], [], MW A B F sw, 0, 0) (some (.int (nI (tpN n jo hi b w))), MW A B F sw, 0, 0)) (f := fun k h => if (jo k).testBit v = true ∧ h < hi k then hi k else h) (n := n) ?_ n (b (sd w (2 ^ v))) (Nat.le_refl _) ?_ hbl
      · intro k h hk ih2 hh
        refine wp_go (f' := (50, [.ref 28, .int (nI w), .int (nI m), .int (nI v), .int (nI (sd w (2 ^ v))), .int (nI h), .int (nI k)], [.int (F 6), .int (nI k)], MW A B F sw, 0, 0)) 3 rfl ?_
        rw [hM.2.1]
        refine wp_go (f' := ((if (nI n) ≤ (nI k) then 100 else 53), [.ref 28, .int (nI w), .int (nI m), .int (nI v), .int (nI (sd w (2 ^ v))), .int (nI h), .int (nI k)], [], MW A B F sw, 0, 0)) 1 rfl ?_
        refine wp_ite (fun h9 => absurd h9 (nI_ge hk (by omega))) (fun _ => ?_)
        refine wp_go (f' := (59, [.ref 28, .int (nI w), .int (nI m), .int (nI v), .int (nI (sd w (2 ^ v))), .int (nI h), .int (nI k)], [.int (nI k), .ref 35], MW A B F sw, 0, 0)) 3 rfl ?_
        refine wp_iald rfl rfl (by omega) (by decide) ?_
        rw [(hJ k (by omega)).1]
        have hjl := (hJ k (by omega)).2
        refine wp_go (f' := (64, [.ref 28, .int (nI w), .int (nI m), .int (nI v), .int (nI (sd w (2 ^ v))), .int (nI h), .int (nI k)], [.int (((nI (jo k)) >>> ((nI v) &&& 31)) &&& (nI 1))], MW A B F sw, 0, 0)) 4 rfl ?_
        rw [bx_bit (by omega) (by omega)]
        refine wp_go (f' := ((if ¬ (bI ((jo k).testBit v)) = (nI 1) then 90 else 68), [.ref 28, .int (nI w), .int (nI m), .int (nI v), .int (nI (sd w (2 ^ v))), .int (nI h), .int (nI k)], [], MW A B F sw, 0, 0)) 2 rfl ?_
        refine wp_ite (fun h1 => ?_) (fun h1 => ?_)
        · have h1 := bI_n1 h1
          refine wp_go (f' := (97, [.ref 28, .int (nI w), .int (nI m), .int (nI v), .int (nI (sd w (2 ^ v))), .int (nI h), .int ((nI k) + 1)], [], MW A B F sw, 0, 0)) 3 rfl ?_
          rw [nI_1]
          refine wp_go (f' := (44, [.ref 28, .int (nI w), .int (nI m), .int (nI v), .int (nI (sd w (2 ^ v))), .int (nI h), .int (nI (k + 1))], [], MW A B F sw, 0, 0)) 1 rfl ?_
          rw [if_neg (fun h8 => by simp [h1] at h8 <;> omega)] at ih2
          exact ih2 hh
        · have h1 := Classical.not_not.mp h1; have h1 := bI_1.mp h1
          refine wp_go (f' := (74, [.ref 28, .int (nI w), .int (nI m), .int (nI v), .int (nI (sd w (2 ^ v))), .int (nI h), .int (nI k)], [.int (nI k), .ref 33], MW A B F sw, 0, 0)) 3 rfl ?_
          refine wp_iald rfl rfl (by omega) (by decide) ?_
          rw [(hH k (by omega)).1]
          have hhi := (hH k (by omega)).2
          refine wp_go (f' := ((if (nI (hi k)) ≤ (nI h) then 90 else 80), [.ref 28, .int (nI w), .int (nI m), .int (nI v), .int (nI (sd w (2 ^ v))), .int (nI h), .int (nI k)], [], MW A B F sw, 0, 0)) 2 rfl ?_
          refine wp_ite (fun h2 => ?_) (fun h2 => ?_)
          · have h2 : hi k ≤ h := (nI_leI (a := hi k) (b := h) (by omega) (by omega)).mp h2
            refine wp_go (f' := (97, [.ref 28, .int (nI w), .int (nI m), .int (nI v), .int (nI (sd w (2 ^ v))), .int (nI h), .int ((nI k) + 1)], [], MW A B F sw, 0, 0)) 3 rfl ?_
            rw [nI_1]
            refine wp_go (f' := (44, [.ref 28, .int (nI w), .int (nI m), .int (nI v), .int (nI (sd w (2 ^ v))), .int (nI h), .int (nI (k + 1))], [], MW A B F sw, 0, 0)) 1 rfl ?_
            rw [if_neg (fun h8 => absurd h8.2 (by omega))] at ih2
            exact ih2 hh
          · have h2 : ¬ (hi k ≤ h) := fun h9 => h2 ((nI_leI (a := hi k) (b := h) (by omega) (by omega)).mpr h9)
            refine wp_go (f' := (86, [.ref 28, .int (nI w), .int (nI m), .int (nI v), .int (nI (sd w (2 ^ v))), .int (nI h), .int (nI k)], [.int (nI k), .ref 33], MW A B F sw, 0, 0)) 3 rfl ?_
            refine wp_iald rfl rfl (by omega) (by decide) ?_
            rw [(hH k (by omega)).1]
            have hhi := (hH k (by omega)).2
            refine wp_go (f' := (97, [.ref 28, .int (nI w), .int (nI m), .int (nI v), .int (nI (sd w (2 ^ v))), .int (nI (hi k)), .int ((nI k) + 1)], [], MW A B F sw, 0, 0)) 3 rfl ?_
            rw [nI_1]
            refine wp_go (f' := (44, [.ref 28, .int (nI w), .int (nI m), .int (nI v), .int (nI (sd w (2 ^ v))), .int (nI (hi k)), .int (nI (k + 1))], [], MW A B F sw, 0, 0)) 1 rfl ?_
            rw [if_pos ⟨h1, by omega⟩] at ih2
            exact ih2 (by omega)
      · intro hh
        refine wp_go (f' := (50, [.ref 28, .int (nI w), .int (nI m), .int (nI v), .int (nI (sd w (2 ^ v))), .int (nI (tpV n jo hi b w v)), .int (nI n)], [.int (F 6), .int (nI n)], MW A B F sw, 0, 0)) 3 rfl ?_
        rw [hM.2.1]
        refine wp_go (f' := ((if (nI n) ≤ (nI n) then 100 else 53), [.ref 28, .int (nI w), .int (nI m), .int (nI v), .int (nI (sd w (2 ^ v))), .int (nI (tpV n jo hi b w v)), .int (nI n)], [], MW A B F sw, 0, 0)) 1 rfl ?_
        refine wp_ite (fun _ => ?_) (fun h9 => absurd (nI_le (Nat.le_refl _) (by omega)) h9)
        refine wp_go (f' := (104, [.ref 28, .int (nI w), .int (nI m), .int (nI v), .int (nI (sd w (2 ^ v))), .int (nI (tpV n jo hi b w v)), .int (nI n)], [.int ((nI (tpV n jo hi b w v)) + (nI 1))], MW A B F sw, 0, 0)) 3 rfl ?_
        rw [nI_add]
        refine wp_go (f' := ((if (nI m) ≤ (nI ((tpV n jo hi b w v) + 1)) then 115 else 108), [.ref 28, .int (nI w), .int (nI m), .int (nI v), .int (nI (sd w (2 ^ v))), .int (nI (tpV n jo hi b w v)), .int (nI n)], [], MW A B F sw, 0, 0)) 2 rfl ?_
        refine wp_ite (fun h1 => ?_) (fun h1 => ?_)
        · have h1 : m ≤ (tpV n jo hi b w v) + 1 := (nI_leI (a := m) (b := (tpV n jo hi b w v) + 1) (by omega) (by omega)).mp h1
          refine wp_go (f' := (120, [.ref 28, .int (nI w), .int (nI m), .int ((nI v) + 1), .int (nI (sd w (2 ^ v))), .int (nI (tpV n jo hi b w v)), .int (nI n)], [], MW A B F sw, 0, 0)) 3 rfl ?_
          rw [nI_1]
          refine wp_go (f' := (6, [.ref 28, .int (nI w), .int (nI m), .int (nI (v + 1)), .int (nI (sd w (2 ^ v))), .int (nI (tpV n jo hi b w v)), .int (nI n)], [], MW A B F sw, 0, 0)) 1 rfl ?_
          rw [if_neg (by omega)] at ih
          exact ih (by omega) _ _ _
        · have h1 : ¬ (m ≤ (tpV n jo hi b w v) + 1) := fun h9 => h1 ((nI_leI (a := m) (b := (tpV n jo hi b w v) + 1) (by omega) (by omega)).mpr h9)
          refine wp_go (f' := (112, [.ref 28, .int (nI w), .int (nI m), .int (nI v), .int (nI (sd w (2 ^ v))), .int (nI (tpV n jo hi b w v)), .int (nI n)], [.int ((nI (tpV n jo hi b w v)) + (nI 1))], MW A B F sw, 0, 0)) 3 rfl ?_
          rw [nI_add]
          refine wp_go (f' := (120, [.ref 28, .int (nI w), .int (nI ((tpV n jo hi b w v) + 1)), .int ((nI v) + 1), .int (nI (sd w (2 ^ v))), .int (nI (tpV n jo hi b w v)), .int (nI n)], [], MW A B F sw, 0, 0)) 3 rfl ?_
          rw [nI_1]
          refine wp_go (f' := (6, [.ref 28, .int (nI w), .int (nI ((tpV n jo hi b w v) + 1)), .int (nI (v + 1)), .int (nI (sd w (2 ^ v))), .int (nI (tpV n jo hi b w v)), .int (nI n)], [], MW A B F sw, 0, 0)) 1 rfl ?_
          rw [if_pos (by omega)] at ih
          exact ih (by omega) _ _ _
  · intro hm e4 e5 e6
    refine wp_go (f' := (11, [.ref 28, .int (nI w), .int (nI (tpN n jo hi b w)), .int (nI n), e4, e5, e6], [.int (F 6), .int (nI n)], MW A B F sw, 0, 0)) 3 rfl ?_
    rw [hM.2.1]
    refine wp_go (f' := ((if (nI n) ≤ (nI n) then 123 else 14), [.ref 28, .int (nI w), .int (nI (tpN n jo hi b w)), .int (nI n), e4, e5, e6], [], MW A B F sw, 0, 0)) 1 rfl ?_
    refine wp_ite (fun _ => ?_) (fun h9 => absurd (nI_le (Nat.le_refl _) (by omega)) h9)
    refine wp_go (f' := (124, [.ref 28, .int (nI w), .int (nI (tpN n jo hi b w)), .int (nI n), e4, e5, e6], [.int (nI (tpN n jo hi b w))], MW A B F sw, 0, 0)) 1 rfl ?_
    exact wp_iret rfl
end MM
