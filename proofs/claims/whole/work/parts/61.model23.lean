/-! the reference's least order by height -/
def arN (n : Nat) (nb : Nat → Nat) (j s : Nat) : Nat := sd (reachN n nb (hangN n nb j s)) (hangN n nb j s)
def hhN (n : Nat) (nb hi : Nat → Nat) (s v : Nat) : Nat := forN (fun j h => if s.testBit j = true ∧ (arN n nb j s).testBit v = true ∧ h < hi j + 1 then hi j + 1 else h) n 1
def hiU (n : Nat) (nb hi : Nat → Nat) (s v : Nat) : Nat → Nat := fun j => if j < n ∧ (hangN n nb v (s ||| 2 ^ v)).testBit j = true then hhN n nb hi s v else hi j
/-- the least heights by what is ahead -/
def beT (n : Nat) (nb hi : Nat → Nat) (a : Nat) : Nat → Nat := (beP n nb hi a (fun _ => 0)).1
theorem beP_fst {n : Nat} {nb hi : Nat → Nat} {a : Nat} {g : Nat → Int32} : (beP n nb hi a g).1 = beT n nb hi a := by
  unfold beT beP
  suffices h : ∀ j, (forN (beS n nb hi a) j ((fun _ => 0), g)).1 = (forN (beS n nb hi a) j ((fun _ => 0), fun _ => 0)).1 from h _
  intro j
  induction j with
  | zero => rfl
  | succ j ih =>
    generalize hX : forN (beS n nb hi a) j ((fun _ => 0), g) = X at ih
    generalize hY : forN (beS n nb hi a) j ((fun _ => 0), fun _ => 0) = Y at ih
    have h1 : forN (beS n nb hi a) (j + 1) ((fun _ => 0), g) = beS n nb hi a j X := by rw [← hX]; rfl
    have h2 : forN (beS n nb hi a) (j + 1) ((fun _ => 0), fun _ => 0) = beS n nb hi a j Y := by rw [← hY]; rfl
    rw [h1, h2]
    unfold beS
    split
    · show upN _ _ _ = upN _ _ _
      rw [ih]
    · exact ih
theorem be_ok {n : Nat} {nb hi : Nat → Nat} {a : Nat} {g : Nat → Int32} (hn : n ≤ 10) (ha : a < 1024) {u : Nat} (hu : u < 2 ^ n) (hua : u &&& a = 0) : (beP n nb hi a g).2 u = nI (beT n nb hi a u) ∧ beT n nb hi a u ≤ 1000 := by
  have h := be_at (nb := nb) (hi := hi) (g := g) hn ha (2 ^ n) (Nat.le_refl _) u hu hua
  rw [← beP_fst (g := g)]
  exact h
theorem sd_and0 {a b : Nat} (ha : a < 1024) : sd a b &&& b = 0 := by
  apply Nat.eq_of_testBit_eq
  intro i
  rw [Nat.testBit_and, sd_bit _ _ _ ha, Nat.zero_testBit]
  cases a.testBit i <;> cases b.testBit i <;> rfl
def rokN (n : Nat) (nb : Nat → Nat) (L : Nat) (hi : Nat → Nat) (s v : Nat) : Bool := !(s.testBit v) && (decide (hhN n nb hi s v ≤ L) && decide (beT n nb (hiU n nb hi s v) (s ||| 2 ^ v) (sd (2 ^ n - 1) (s ||| 2 ^ v)) ≤ L))
def rpkN (n : Nat) (nb : Nat → Nat) (L : Nat) (hi : Nat → Nat) (s : Nat) : Nat := firstV (rokN n nb L hi s) n 0
def lhN (n : Nat) (nb : Nat → Nat) : Nat := beT n nb (fun _ => 0) 0 (2 ^ n - 1)
def rhyS (n : Nat) (nb : Nat → Nat) : Nat → (Nat × (Nat → Nat) × (Nat → Int32)) → (Nat × (Nat → Nat) × (Nat → Int32)) := fun k q => (q.1 ||| 2 ^ rpkN n nb (lhN n nb) q.2.1 q.1, hiU n nb q.2.1 q.1 (rpkN n nb (lhN n nb) q.2.1 q.1), upd q.2.2 k (nI (rpkN n nb (lhN n nb) q.2.1 q.1)))
def rhyN (n : Nat) (nb : Nat → Nat) (g : Nat → Int32) (k : Nat) : Nat × (Nat → Nat) × (Nat → Int32) := forN (rhyS n nb) k (0, (fun _ => 0), g)
theorem hh_le {n : Nat} {nb hi : Nat → Nat} {s v K : Nat} (hn : n ≤ 10) (hh : ∀ j, j < 10 → hi j ≤ K) : hhN n nb hi s v ≤ K + 1 := by
  refine forN_inv (I := fun _ (h : Nat) => h ≤ K + 1) (by omega) (fun k h hk hx => ?_) n (Nat.le_refl _)
  split
  · have := hh k (by omega); omega
  · exact hx
theorem hiU_le {n : Nat} {nb hi : Nat → Nat} {s v K : Nat} (hn : n ≤ 10) (hh : ∀ j, j < 10 → hi j ≤ K) : ∀ j, j < 10 → hiU n nb hi s v j ≤ K + 1 := by
  intro j hj
  unfold hiU
  split
  · exact hh_le hn hh
  · have := hh j hj; omega
/-- kept and high, after the loop over both -/
def kpS (part : Nat) (x : Int32) : Nat → ((Nat → Int32) × (Nat → Int32)) → ((Nat → Int32) × (Nat → Int32)) := fun j q => (upd q.1 j (q.2 j), upd q.2 j (if part.testBit j = true then x else q.2 j))
theorem kp_ok {part n : Nat} {x : Int32} {q : (Nat → Int32) × (Nat → Int32)} : ∀ j, (j < n → (forN (kpS part x) n q).1 j = q.2 j ∧ (forN (kpS part x) n q).2 j = (if part.testBit j = true then x else q.2 j)) ∧ (n ≤ j → (forN (kpS part x) n q).2 j = q.2 j) := by
  induction n with
  | zero => exact fun j => ⟨fun h => absurd h (Nat.not_lt_zero _), fun _ => rfl⟩
  | succ n ih =>
    intro j
    refine ⟨fun h => ?_, fun h => ?_⟩
    · show upd _ n _ j = _ ∧ upd _ n _ j = _
      by_cases e : j = n
      · subst e
        rw [pk_us, pk_us, (ih j).2 (Nat.le_refl _)]
        exact ⟨rfl, rfl⟩
      · rw [pk_un e, pk_un e]
        exact (ih j).1 (by omega)
    · show upd _ n _ j = _
      rw [pk_un (by omega)]
      exact (ih j).2 (by omega)
theorem rs_ok {n : Nat} {kp f : Nat → Int32} : ∀ j, (j < n → forN (fun j f => upd f j (kp j)) n f j = kp j) ∧ (n ≤ j → forN (fun j f => upd f j (kp j)) n f j = f j) := by
  induction n with
  | zero => exact fun j => ⟨fun h => absurd h (Nat.not_lt_zero _), fun _ => rfl⟩
  | succ n ih =>
    intro j
    refine ⟨fun h => ?_, fun h => ?_⟩
    · show upd _ n _ j = _
      by_cases e : j = n
      · subst e; rw [pk_us]
      · rw [pk_un e]; exact (ih j).1 (by omega)
    · show upd _ n _ j = _
      rw [pk_un (by omega)]
      exact (ih j).2 (by omega)
section MM
variable {xs : Nat → Int32} {Ls : Nat} {A : Nat → Nat → Int32} {B : Nat → Nat → Int64} {F : Nat → Int32} {sw : Bool} {n : Nat} {nb : Nat → Nat}
theorem ev_layHighM (hM : MI A F n nb) (hex : ∀ k, k < n → rpkN n nb (lhN n nb) (rhyN n nb (A 32) k).2.1 (rhyN n nb (A 32) k).1 < n) : ∃ g33 g34 g35 g37 : Nat → Int32, mv_Ev xs Ls 4 111 [.ref 28] (MW A B F sw) (some (.int (nI (lhN n nb))), MW (upA (upA (upA (upA (upA A 33 g33) 34 g34) 35 g35) 37 g37) 32 (rhyN n nb (A 32) n).2.2) B F sw, 0, 0) := by
  have hn := hM.1
  have hp := pow10 hn
  have hp1 : 1 ≤ 2 ^ n := Nat.one_le_two_pow
  have hal := all_lt hn
  have hLl : (lhN n nb) ≤ 1000 := (be_ok (g := fun _ => 0) hn (by omega) (by omega) (Nat.and_zero _)).2
  have hout : ∀ (f33 f34 f35 f37 : Nat → Int32), (∀ j, j < 10 → f33 j = nI 0) → ∀ e4 e5 e6 e7 e8 e9 : Value, ∃ g33 g34 g35 g37 : Nat → Int32, mv_Wp xs Ls 3 6 false (some .int) mv_c111 (40, [.ref 28, .int (nI (lhN n nb)), .int (nI 0), .int (nI 0), e4, e5, e6, e7, e8, e9], [], MW (upA (upA (upA (upA (upA A 33 f33) 34 f34) 35 f35) 37 f37) 32 (A 32)) B F sw, 0, 0) (some (.int (nI (lhN n nb))), MW (upA (upA (upA (upA (upA A 33 g33) 34 g34) 35 g35) 37 g37) 32 (rhyN n nb (A 32) n).2.2) B F sw, 0, 0) := by
    have hfor := for_ind (P := fun (k : Nat) (q : Nat × (Nat → Nat) × (Nat → Int32)) => q = rhyN n nb (A 32) k → q.1 < 2 ^ n → ∀ (f33 f34 f35 f37 : Nat → Int32), (∀ j, j < 10 → f33 j = nI (q.2.1 j) ∧ q.2.1 j ≤ k) → ∀ e4 e5 e6 e7 e8 e9 : Value, ∃ g33 g34 g35 g37 : Nat → Int32, mv_Wp xs Ls 3 6 false (some .int) mv_c111 (40, [.ref 28, .int (nI (lhN n nb)), .int (nI q.1), .int (nI k), e4, e5, e6, e7, e8, e9], [], MW (upA (upA (upA (upA (upA A 33 f33) 34 f34) 35 f35) 37 f37) 32 q.2.2) B F sw, 0, 0) (some (.int (nI (lhN n nb))), MW (upA (upA (upA (upA (upA A 33 g33) 34 g34) 35 g35) 37 g37) 32 (rhyN n nb (A 32) n).2.2) B F sw, 0, 0)) (f := rhyS n nb) (n := n) ?_ n (0, (fun _ => 0), A 32) (Nat.le_refl _) ?_ rfl (by show 0 < 2 ^ n; omega)
    · exact fun f33 f34 f35 f37 h33 => hfor f33 f34 f35 f37 (fun j hj => ⟨h33 j hj, Nat.le_refl _⟩)
    · intro k q hk ih hqk hq1 f33 f34 f35 f37 h33 e4 e5 e6 e7 e8 e9
      have hpk := hex k hk
      rw [← hqk] at hpk
      obtain ⟨s, hi, row⟩ := q
      dsimp only at hq1 h33 hpk ih ⊢
      obtain ⟨w1, w2, w3, w4⟩ := firstV_all (p := rokN n nb (lhN n nb) hi s) n 0
      change (rpkN n nb (lhN n nb) hi s) < 0 + n → rokN n nb (lhN n nb) hi s (rpkN n nb (lhN n nb) hi s) = true at w3
      change ∀ w, 0 ≤ w → w < (rpkN n nb (lhN n nb) hi s) → rokN n nb (lhN n nb) hi s w = false at w4
      have ihh := ih (by rw [hqk]; rfl) (or_ltn hq1 hpk)
      dsimp only [rhyS] at ihh
      have hin : ∀ (v : Nat), v ≤ (rpkN n nb (lhN n nb) hi s) → ∀ (f33 f34 f35 f37 : Nat → Int32), (∀ j, j < 10 → f33 j = nI (hi j)) → ∀ e6 e7 e8 e9 : Value, ∃ g33 g34 g35 g37 : Nat → Int32, mv_Wp xs Ls 3 6 false (some .int) mv_c111 (59, [.ref 28, .int (nI (lhN n nb)), .int (nI s), .int (nI k), .int (nI v), .int (nI 0), e6, e7, e8, e9], [], MW (upA (upA (upA (upA (upA A 33 f33) 34 f34) 35 f35) 37 f37) 32 row) B F sw, 0, 0) (some (.int (nI (lhN n nb))), MW (upA (upA (upA (upA (upA A 33 g33) 34 g34) 35 g35) 37 g37) 32 (rhyN n nb (A 32) n).2.2) B F sw, 0, 0) := by
        refine wh_ind (fun v => n - v) ?_
        intro v ihv hv f33 f34 f35 f37 hh33 e6 e7 e8 e9
        have hhl : ∀ j, j < 10 → hi j ≤ k := fun j hj => (h33 j hj).2
        have hH9 : ∀ j, j < 10 → f33 j = nI (hi j) ∧ hi j ≤ 1000 := fun j hj => ⟨hh33 j hj, by have := hhl j hj; omega⟩
        cases hsb : s.testBit v with
        | true =>
          have hok : rokN n nb (lhN n nb) hi s v = false := by unfold rokN; rw [hsb]; rfl
          have hne : v ≠ (rpkN n nb (lhN n nb) hi s) := fun e => by have h5 := w3 (by omega); rw [← e, hok] at h5; cases h5
          obtain ⟨g33, g34, g35, g37, hW⟩ := ihv (v + 1) (by omega) (by omega) f33 f34 f35 f37 hh33 e6 e7 e8 e9
          refine ⟨g33, g34, g35, g37, ?_⟩
          refine wp_go (f' := (65, [.ref 28, .int (nI (lhN n nb)), .int (nI s), .int (nI k), .int (nI v), .int (nI 0), e6, e7, e8, e9], [.int (((nI s) >>> ((nI v) &&& 31)) &&& (nI 1))], MW (upA (upA (upA (upA (upA A 33 f33) 34 f34) 35 f35) 37 f37) 32 row) B F sw, 0, 0)) 5 rfl ?_
          rw [bx_bit (by omega) (by omega)]
          refine wp_go (f' := ((if ¬ (bI (s.testBit v)) = (nI 1) then 75 else 69), [.ref 28, .int (nI (lhN n nb)), .int (nI s), .int (nI k), .int (nI v), .int (nI 0), e6, e7, e8, e9], [], MW (upA (upA (upA (upA (upA A 33 f33) 34 f34) 35 f35) 37 f37) 32 row) B F sw, 0, 0)) 2 rfl ?_
          refine wp_ite (fun h9 => absurd h9 (fun h8 => h8 (bI_t hsb))) (fun _ => ?_)
          refine wp_go (f' := (72, [.ref 28, .int (nI (lhN n nb)), .int (nI s), .int (nI k), .int ((nI v) + 1), .int (nI 0), e6, e7, e8, e9], [], MW (upA (upA (upA (upA (upA A 33 f33) 34 f34) 35 f35) 37 f37) 32 row) B F sw, 0, 0)) 1 rfl ?_
          rw [nI_1]
          refine wp_go (f' := (59, [.ref 28, .int (nI (lhN n nb)), .int (nI s), .int (nI k), .int (nI (v + 1)), .int (nI 0), e6, e7, e8, e9], [], MW (upA (upA (upA (upA (upA A 33 f33) 34 f34) 35 f35) 37 f37) 32 row) B F sw, 0, 0)) 1 rfl ?_
          exact hW
        | false =>
          have hvn : v < n := by omega
          have hnwl : (s ||| 2 ^ v) < 2 ^ n := or_ltn hq1 hvn
          have hHl : (hhN n nb hi s v) ≤ k + 1 := hh_le hn hhl
          have hkp := kp_ok (part := (hangN n nb v (s ||| 2 ^ v))) (n := n) (x := nI (hhN n nb hi s v)) (q := (f37, f33))
          have hkU : ∀ j, j < 10 → (forN (kpS (hangN n nb v (s ||| 2 ^ v)) (nI (hhN n nb hi s v))) n (f37, f33)).2 j = nI ((hiU n nb hi s v) j) ∧ (hiU n nb hi s v) j ≤ 1000 := by
            intro j hj
            refine ⟨?_, by have h5 := hiU_le (nb := nb) (s := s) (v := v) hn hhl j hj; omega⟩
            unfold hiU
            by_cases hjn : j < n
            · rw [((hkp j).1 hjn).2]
              cases hb : (hangN n nb v (s ||| 2 ^ v)).testBit j with
              | true => rw [if_pos rfl, if_pos ⟨hjn, rfl⟩]
              | false => rw [if_neg (by decide), if_neg (fun h5 => absurd h5.2 (by decide))]; exact hh33 j hj
            · rw [(hkp j).2 (by omega), if_neg (fun h5 => hjn h5.1)]; exact hh33 j hj
          have hbe := be_ok (nb := nb) (hi := (hiU n nb hi s v)) (a := (s ||| 2 ^ v)) (g := f34) hn (by omega) (u := (sd (2 ^ n - 1) (s ||| 2 ^ v))) (by have h5 := sd_le (a := 2 ^ n - 1) (b := (s ||| 2 ^ v)); omega) (sd_and0 (by omega))
          have hbl := hbe.2
          have hrsl : (sd (2 ^ n - 1) (s ||| 2 ^ v)) < 1024 := sd_lt hal
          have hto : ∀ r : mv_R, mv_Wp xs Ls 3 6 false (some .int) mv_c111 (236, [.ref 28, .int (nI (lhN n nb)), .int (nI s), .int (nI k), .int (nI v), .int (nI 0), .int (nI (hhN n nb hi s v)), .int (nI (s ||| 2 ^ v)), .int (nI (hangN n nb v (s ||| 2 ^ v))), .int (nI n)], [], MW (upA (upA (upA (upA (upA A 33 (forN (kpS (hangN n nb v (s ||| 2 ^ v)) (nI (hhN n nb hi s v))) n (f37, f33)).2) 34 f34) 35 f35) 37 (forN (kpS (hangN n nb v (s ||| 2 ^ v)) (nI (hhN n nb hi s v))) n (f37, f33)).1) 32 row) B F sw, 0, 0) r → mv_Wp xs Ls 3 6 false (some .int) mv_c111 (59, [.ref 28, .int (nI (lhN n nb)), .int (nI s), .int (nI k), .int (nI v), .int (nI 0), e6, e7, e8, e9], [], MW (upA (upA (upA (upA (upA A 33 f33) 34 f34) 35 f35) 37 f37) 32 row) B F sw, 0, 0) r := by
            intro r hr
            refine wp_go (f' := (65, [.ref 28, .int (nI (lhN n nb)), .int (nI s), .int (nI k), .int (nI v), .int (nI 0), e6, e7, e8, e9], [.int (((nI s) >>> ((nI v) &&& 31)) &&& (nI 1))], MW (upA (upA (upA (upA (upA A 33 f33) 34 f34) 35 f35) 37 f37) 32 row) B F sw, 0, 0)) 5 rfl ?_
            rw [bx_bit (by omega) (by omega)]
            refine wp_go (f' := ((if ¬ (bI (s.testBit v)) = (nI 1) then 75 else 69), [.ref 28, .int (nI (lhN n nb)), .int (nI s), .int (nI k), .int (nI v), .int (nI 0), e6, e7, e8, e9], [], MW (upA (upA (upA (upA (upA A 33 f33) 34 f34) 35 f35) 37 f37) 32 row) B F sw, 0, 0)) 2 rfl ?_
            refine wp_ite (fun _ => ?_) (fun h9 => absurd (by rw [hsb]; decide) h9)
            refine wp_go (f' := (81, [.ref 28, .int (nI (lhN n nb)), .int (nI s), .int (nI k), .int (nI v), .int (nI 0), .int (nI 1), .int (nI 0), e8, e9], [], MW (upA (upA (upA (upA (upA A 33 f33) 34 f34) 35 f35) 37 f37) 32 row) B F sw, 0, 0)) 4 rfl ?_
            refine for_ind (P := fun (j h : Nat) => h ≤ 1000 → mv_Wp xs Ls 3 6 false (some .int) mv_c111 (81, [.ref 28, .int (nI (lhN n nb)), .int (nI s), .int (nI k), .int (nI v), .int (nI 0), .int (nI h), .int (nI j), e8, e9], [], MW (upA (upA (upA (upA (upA A 33 f33) 34 f34) 35 f35) 37 f37) 32 row) B F sw, 0, 0) r) (f := fun j h => if s.testBit j = true ∧ (arN n nb j s).testBit v = true ∧ h < hi j + 1 then hi j + 1 else h) (n := n) ?_ n 1 (Nat.le_refl _) ?_ (by omega)
            · intro j h hj ih3 hh
              have hhj := hhl j (by omega)
              have harl : arN n nb j s < 1024 := sd_lt (reachN_lt hn hM.2.2.2 _)
              refine wp_go (f' := (87, [.ref 28, .int (nI (lhN n nb)), .int (nI s), .int (nI k), .int (nI v), .int (nI 0), .int (nI h), .int (nI j), e8, e9], [.int (F 6), .int (nI j)], MW (upA (upA (upA (upA (upA A 33 f33) 34 f34) 35 f35) 37 f37) 32 row) B F sw, 0, 0)) 3 rfl ?_
              rw [hM.2.1]
              refine wp_go (f' := ((if (nI n) ≤ (nI j) then 156 else 90), [.ref 28, .int (nI (lhN n nb)), .int (nI s), .int (nI k), .int (nI v), .int (nI 0), .int (nI h), .int (nI j), e8, e9], [], MW (upA (upA (upA (upA (upA A 33 f33) 34 f34) 35 f35) 37 f37) 32 row) B F sw, 0, 0)) 1 rfl ?_
              refine wp_ite (fun h9 => absurd h9 (nI_ge hj (by omega))) (fun _ => ?_)
              refine wp_go (f' := (96, [.ref 28, .int (nI (lhN n nb)), .int (nI s), .int (nI k), .int (nI v), .int (nI 0), .int (nI h), .int (nI j), e8, e9], [.int (((nI s) >>> ((nI j) &&& 31)) &&& (nI 1))], MW (upA (upA (upA (upA (upA A 33 f33) 34 f34) 35 f35) 37 f37) 32 row) B F sw, 0, 0)) 5 rfl ?_
              rw [bx_bit (by omega) (by omega)]
              refine wp_go (f' := ((if ¬ (bI (s.testBit j)) = (nI 1) then 146 else 100), [.ref 28, .int (nI (lhN n nb)), .int (nI s), .int (nI k), .int (nI v), .int (nI 0), .int (nI h), .int (nI j), e8, e9], [], MW (upA (upA (upA (upA (upA A 33 f33) 34 f34) 35 f35) 37 f37) 32 row) B F sw, 0, 0)) 2 rfl ?_
              refine wp_ite (fun h1 => ?_) (fun h1 => ?_)
              · have h1 := bI_n1 h1
                refine wp_go (f' := (153, [.ref 28, .int (nI (lhN n nb)), .int (nI s), .int (nI k), .int (nI v), .int (nI 0), .int (nI h), .int ((nI j) + 1), e8, e9], [], MW (upA (upA (upA (upA (upA A 33 f33) 34 f34) 35 f35) 37 f37) 32 row) B F sw, 0, 0)) 3 rfl ?_
                rw [nI_1]
                refine wp_go (f' := (81, [.ref 28, .int (nI (lhN n nb)), .int (nI s), .int (nI k), .int (nI v), .int (nI 0), .int (nI h), .int (nI (j + 1)), e8, e9], [], MW (upA (upA (upA (upA (upA A 33 f33) 34 f34) 35 f35) 37 f37) 32 row) B F sw, 0, 0)) 1 rfl ?_
                rw [if_neg (fun h8 => by rw [h1] at h8; exact absurd h8.1 (by decide))] at ih3
                exact ih3 hh
              · have h1 := Classical.not_not.mp h1; have h1 := bI_1.mp h1
                refine wp_go (f' := (105, [.ref 28, .int (nI (lhN n nb)), .int (nI s), .int (nI k), .int (nI v), .int (nI 0), .int (nI h), .int (nI j), e8, e9], [.int (nI s), .int (nI j), .ref 28, .ref 28], MW (upA (upA (upA (upA (upA A 33 f33) 34 f34) 35 f35) 37 f37) 32 row) B F sw, 0, 0)) 4 rfl ?_
                refine wp_call rfl rfl rfl (ev_up (ev_hang (A := (upA (upA (upA (upA (upA A 33 f33) 34 f34) 35 f35) 37 f37) 32 row)) hM (v := j) (s := s) (by omega) (by omega)) (by decide)) ?_
                refine wp_eq (f' := (108, [.ref 28, .int (nI (lhN n nb)), .int (nI s), .int (nI k), .int (nI v), .int (nI 0), .int (nI h), .int (nI j), e8, e9], [.int (nI (hangN n nb j s)), .ref 28], MW (upA (upA (upA (upA (upA A 33 f33) 34 f34) 35 f35) 37 f37) 32 row) B F sw, 0, 0)) rfl ?_
                have hhg := hangN_lt (n := n) (nb := nb) (v := j) (s := s) (by omega) (by omega)
                refine wp_call rfl rfl rfl (ev_up (ev_around (A := (upA (upA (upA (upA (upA A 33 f33) 34 f34) 35 f35) 37 f37) 32 row)) hM (s := hangN n nb j s) (by omega)) (by decide)) ?_
                refine wp_eq (f' := (111, [.ref 28, .int (nI (lhN n nb)), .int (nI s), .int (nI k), .int (nI v), .int (nI 0), .int (nI h), .int (nI j), e8, e9], [.int (nI (sd (reachN n nb (hangN n nb j s)) (hangN n nb j s)))], MW (upA (upA (upA (upA (upA A 33 f33) 34 f34) 35 f35) 37 f37) 32 row) B F sw, 0, 0)) rfl ?_
                have hra := sd_lt (b := hangN n nb j s) (reachN_lt hM.1 hM.2.2.2 (hangN n nb j s))
                rw [(rfl : nI (sd (reachN n nb (hangN n nb j s)) (hangN n nb j s)) = nI (arN n nb j s))]
                refine wp_go (f' := (116, [.ref 28, .int (nI (lhN n nb)), .int (nI s), .int (nI k), .int (nI v), .int (nI 0), .int (nI h), .int (nI j), e8, e9], [.int (((nI (arN n nb j s)) >>> ((nI v) &&& 31)) &&& (nI 1))], MW (upA (upA (upA (upA (upA A 33 f33) 34 f34) 35 f35) 37 f37) 32 row) B F sw, 0, 0)) 4 rfl ?_
                rw [bx_bit (by omega) (by omega)]
                refine wp_go (f' := ((if ¬ (bI ((arN n nb j s).testBit v)) = (nI 1) then 146 else 120), [.ref 28, .int (nI (lhN n nb)), .int (nI s), .int (nI k), .int (nI v), .int (nI 0), .int (nI h), .int (nI j), e8, e9], [], MW (upA (upA (upA (upA (upA A 33 f33) 34 f34) 35 f35) 37 f37) 32 row) B F sw, 0, 0)) 2 rfl ?_
                refine wp_ite (fun h2 => ?_) (fun h2 => ?_)
                · have h2 := bI_n1 h2
                  refine wp_go (f' := (153, [.ref 28, .int (nI (lhN n nb)), .int (nI s), .int (nI k), .int (nI v), .int (nI 0), .int (nI h), .int ((nI j) + 1), e8, e9], [], MW (upA (upA (upA (upA (upA A 33 f33) 34 f34) 35 f35) 37 f37) 32 row) B F sw, 0, 0)) 3 rfl ?_
                  rw [nI_1]
                  refine wp_go (f' := (81, [.ref 28, .int (nI (lhN n nb)), .int (nI s), .int (nI k), .int (nI v), .int (nI 0), .int (nI h), .int (nI (j + 1)), e8, e9], [], MW (upA (upA (upA (upA (upA A 33 f33) 34 f34) 35 f35) 37 f37) 32 row) B F sw, 0, 0)) 1 rfl ?_
                  rw [if_neg (fun h8 => by rw [h2] at h8; exact absurd h8.2.1 (by decide))] at ih3
                  exact ih3 hh
                · have h2 := Classical.not_not.mp h2; have h2 := bI_1.mp h2
                  refine wp_go (f' := (126, [.ref 28, .int (nI (lhN n nb)), .int (nI s), .int (nI k), .int (nI v), .int (nI 0), .int (nI h), .int (nI j), e8, e9], [.int (nI j), .ref 33], MW (upA (upA (upA (upA (upA A 33 f33) 34 f34) 35 f35) 37 f37) 32 row) B F sw, 0, 0)) 3 rfl ?_
                  refine wp_iald rfl rfl (by omega) (by decide) ?_
                  refine wp_eq (f' := (127, [.ref 28, .int (nI (lhN n nb)), .int (nI s), .int (nI k), .int (nI v), .int (nI 0), .int (nI h), .int (nI j), e8, e9], [.int (f33 j)], MW (upA (upA (upA (upA (upA A 33 f33) 34 f34) 35 f35) 37 f37) 32 row) B F sw, 0, 0)) rfl ?_
                  rw [hh33 j (by omega)]
                  refine wp_go (f' := (129, [.ref 28, .int (nI (lhN n nb)), .int (nI s), .int (nI k), .int (nI v), .int (nI 0), .int (nI h), .int (nI j), e8, e9], [.int ((nI (hi j)) + (nI 1))], MW (upA (upA (upA (upA (upA A 33 f33) 34 f34) 35 f35) 37 f37) 32 row) B F sw, 0, 0)) 2 rfl ?_
                  rw [nI_add]
                  refine wp_go (f' := ((if (nI ((hi j) + 1)) ≤ (nI h) then 146 else 134), [.ref 28, .int (nI (lhN n nb)), .int (nI s), .int (nI k), .int (nI v), .int (nI 0), .int (nI h), .int (nI j), e8, e9], [], MW (upA (upA (upA (upA (upA A 33 f33) 34 f34) 35 f35) 37 f37) 32 row) B F sw, 0, 0)) 2 rfl ?_
                  refine wp_ite (fun h3 => ?_) (fun h3 => ?_)
                  · have h3 : (hi j) + 1 ≤ h := (nI_leI (a := (hi j) + 1) (b := h) (by omega) (by omega)).mp h3
                    refine wp_go (f' := (153, [.ref 28, .int (nI (lhN n nb)), .int (nI s), .int (nI k), .int (nI v), .int (nI 0), .int (nI h), .int ((nI j) + 1), e8, e9], [], MW (upA (upA (upA (upA (upA A 33 f33) 34 f34) 35 f35) 37 f37) 32 row) B F sw, 0, 0)) 3 rfl ?_
                    rw [nI_1]
                    refine wp_go (f' := (81, [.ref 28, .int (nI (lhN n nb)), .int (nI s), .int (nI k), .int (nI v), .int (nI 0), .int (nI h), .int (nI (j + 1)), e8, e9], [], MW (upA (upA (upA (upA (upA A 33 f33) 34 f34) 35 f35) 37 f37) 32 row) B F sw, 0, 0)) 1 rfl ?_
                    rw [if_neg (fun h8 => by omega)] at ih3
                    exact ih3 hh
                  · have h3 : ¬ ((hi j) + 1 ≤ h) := fun h9 => h3 ((nI_leI (a := (hi j) + 1) (b := h) (by omega) (by omega)).mpr h9)
                    refine wp_go (f' := (140, [.ref 28, .int (nI (lhN n nb)), .int (nI s), .int (nI k), .int (nI v), .int (nI 0), .int (nI h), .int (nI j), e8, e9], [.int (nI j), .ref 33], MW (upA (upA (upA (upA (upA A 33 f33) 34 f34) 35 f35) 37 f37) 32 row) B F sw, 0, 0)) 3 rfl ?_
                    refine wp_iald rfl rfl (by omega) (by decide) ?_
                    refine wp_eq (f' := (141, [.ref 28, .int (nI (lhN n nb)), .int (nI s), .int (nI k), .int (nI v), .int (nI 0), .int (nI h), .int (nI j), e8, e9], [.int (f33 j)], MW (upA (upA (upA (upA (upA A 33 f33) 34 f34) 35 f35) 37 f37) 32 row) B F sw, 0, 0)) rfl ?_
                    rw [hh33 j (by omega)]
                    refine wp_go (f' := (143, [.ref 28, .int (nI (lhN n nb)), .int (nI s), .int (nI k), .int (nI v), .int (nI 0), .int (nI h), .int (nI j), e8, e9], [.int ((nI (hi j)) + (nI 1))], MW (upA (upA (upA (upA (upA A 33 f33) 34 f34) 35 f35) 37 f37) 32 row) B F sw, 0, 0)) 2 rfl ?_
                    rw [nI_add]
                    refine wp_go (f' := (153, [.ref 28, .int (nI (lhN n nb)), .int (nI s), .int (nI k), .int (nI v), .int (nI 0), .int (nI ((hi j) + 1)), .int ((nI j) + 1), e8, e9], [], MW (upA (upA (upA (upA (upA A 33 f33) 34 f34) 35 f35) 37 f37) 32 row) B F sw, 0, 0)) 3 rfl ?_
                    rw [nI_1]
                    refine wp_go (f' := (81, [.ref 28, .int (nI (lhN n nb)), .int (nI s), .int (nI k), .int (nI v), .int (nI 0), .int (nI ((hi j) + 1)), .int (nI (j + 1)), e8, e9], [], MW (upA (upA (upA (upA (upA A 33 f33) 34 f34) 35 f35) 37 f37) 32 row) B F sw, 0, 0)) 1 rfl ?_
                    rw [if_pos ⟨h1, h2, by omega⟩] at ih3
                    exact ih3 (by omega)
            · intro hh
              refine wp_go (f' := (87, [.ref 28, .int (nI (lhN n nb)), .int (nI s), .int (nI k), .int (nI v), .int (nI 0), .int (nI (hhN n nb hi s v)), .int (nI n), e8, e9], [.int (F 6), .int (nI n)], MW (upA (upA (upA (upA (upA A 33 f33) 34 f34) 35 f35) 37 f37) 32 row) B F sw, 0, 0)) 3 rfl ?_
              rw [hM.2.1]
              refine wp_go (f' := ((if (nI n) ≤ (nI n) then 156 else 90), [.ref 28, .int (nI (lhN n nb)), .int (nI s), .int (nI k), .int (nI v), .int (nI 0), .int (nI (hhN n nb hi s v)), .int (nI n), e8, e9], [], MW (upA (upA (upA (upA (upA A 33 f33) 34 f34) 35 f35) 37 f37) 32 row) B F sw, 0, 0)) 1 rfl ?_
              refine wp_ite (fun _ => ?_) (fun h9 => absurd (nI_le (Nat.le_refl _) (by omega)) h9)
              refine wp_go (f' := (161, [.ref 28, .int (nI (lhN n nb)), .int (nI s), .int (nI k), .int (nI v), .int (nI 0), .int (nI (hhN n nb hi s v)), .int (nI n), e8, e9], [.int ((nI 1) <<< ((nI v) &&& 31)), .int (nI s)], MW (upA (upA (upA (upA (upA A 33 f33) 34 f34) 35 f35) 37 f37) 32 row) B F sw, 0, 0)) 4 rfl ?_
              rw [bx_one (by omega)]
              refine wp_go (f' := (162, [.ref 28, .int (nI (lhN n nb)), .int (nI s), .int (nI k), .int (nI v), .int (nI 0), .int (nI (hhN n nb hi s v)), .int (nI n), e8, e9], [.int ((nI s) ||| (nI (2 ^ v)))], MW (upA (upA (upA (upA (upA A 33 f33) 34 f34) 35 f35) 37 f37) 32 row) B F sw, 0, 0)) 1 rfl ?_
              rw [bx_or]
              refine wp_go (f' := (169, [.ref 28, .int (nI (lhN n nb)), .int (nI s), .int (nI k), .int (nI v), .int (nI 0), .int (nI (hhN n nb hi s v)), .int (nI (s ||| (2 ^ v))), e8, e9], [.int (nI (s ||| (2 ^ v))), .int (nI v), .ref 28], MW (upA (upA (upA (upA (upA A 33 f33) 34 f34) 35 f35) 37 f37) 32 row) B F sw, 0, 0)) 4 rfl ?_
              refine wp_call rfl rfl rfl (ev_up (ev_hang (A := (upA (upA (upA (upA (upA A 33 f33) 34 f34) 35 f35) 37 f37) 32 row)) hM (v := v) (s := s ||| (2 ^ v)) (by omega) (by omega)) (by decide)) ?_
              refine wp_eq (f' := (172, [.ref 28, .int (nI (lhN n nb)), .int (nI s), .int (nI k), .int (nI v), .int (nI 0), .int (nI (hhN n nb hi s v)), .int (nI (s ||| (2 ^ v))), e8, e9], [.int (nI (hangN n nb v (s ||| (2 ^ v))))], MW (upA (upA (upA (upA (upA A 33 f33) 34 f34) 35 f35) 37 f37) 32 row) B F sw, 0, 0)) rfl ?_
              have hhg := hangN_lt (n := n) (nb := nb) (v := v) (s := s ||| (2 ^ v)) (by omega) (by omega)
              refine wp_go (f' := (177, [.ref 28, .int (nI (lhN n nb)), .int (nI s), .int (nI k), .int (nI v), .int (nI 0), .int (nI (hhN n nb hi s v)), .int (nI (s ||| (2 ^ v))), .int (nI (hangN n nb v (s ||| (2 ^ v)))), .int (nI 0)], [], MW (upA (upA (upA (upA (upA A 33 f33) 34 f34) 35 f35) 37 f37) 32 row) B F sw, 0, 0)) 3 rfl ?_
              refine wp_eq (f' := (177, [.ref 28, .int (nI (lhN n nb)), .int (nI s), .int (nI k), .int (nI v), .int (nI 0), .int (nI (hhN n nb hi s v)), .int (nI (s ||| (2 ^ v))), .int (nI (hangN n nb v (s ||| (2 ^ v)))), .int (nI 0)], [], MW (upA (upA (upA (upA (upA A 33 f33) 34 f34) 35 f35) 37 f37) 32 row) B F sw, 0, 0)) rfl ?_
              refine for_ind (P := fun (j : Nat) (u : (Nat → Int32) × (Nat → Int32)) => mv_Wp xs Ls 3 6 false (some .int) mv_c111 (177, [.ref 28, .int (nI (lhN n nb)), .int (nI s), .int (nI k), .int (nI v), .int (nI 0), .int (nI (hhN n nb hi s v)), .int (nI (s ||| (2 ^ v))), .int (nI (hangN n nb v (s ||| (2 ^ v)))), .int (nI j)], [], MW (upA (upA (upA (upA (upA A 33 u.2) 34 f34) 35 f35) 37 u.1) 32 row) B F sw, 0, 0) r) (f := kpS (hangN n nb v (s ||| 2 ^ v)) (nI (hhN n nb hi s v))) (n := n) ?_ n (f37, f33) (Nat.le_refl _) ?_
              · intro j u hj ih4
                refine wp_go (f' := (183, [.ref 28, .int (nI (lhN n nb)), .int (nI s), .int (nI k), .int (nI v), .int (nI 0), .int (nI (hhN n nb hi s v)), .int (nI (s ||| (2 ^ v))), .int (nI (hangN n nb v (s ||| (2 ^ v)))), .int (nI j)], [.int (F 6), .int (nI j)], MW (upA (upA (upA (upA (upA A 33 u.2) 34 f34) 35 f35) 37 u.1) 32 row) B F sw, 0, 0)) 3 rfl ?_
                rw [hM.2.1]
                refine wp_go (f' := ((if (nI n) ≤ (nI j) then 236 else 186), [.ref 28, .int (nI (lhN n nb)), .int (nI s), .int (nI k), .int (nI v), .int (nI 0), .int (nI (hhN n nb hi s v)), .int (nI (s ||| (2 ^ v))), .int (nI (hangN n nb v (s ||| (2 ^ v)))), .int (nI j)], [], MW (upA (upA (upA (upA (upA A 33 u.2) 34 f34) 35 f35) 37 u.1) 32 row) B F sw, 0, 0)) 1 rfl ?_
                refine wp_ite (fun h9 => absurd h9 (nI_ge hj (by omega))) (fun _ => ?_)
                refine wp_go (f' := (198, [.ref 28, .int (nI (lhN n nb)), .int (nI s), .int (nI k), .int (nI v), .int (nI 0), .int (nI (hhN n nb hi s v)), .int (nI (s ||| (2 ^ v))), .int (nI (hangN n nb v (s ||| (2 ^ v)))), .int (nI j)], [.int (nI j), .ref 33, .int (nI j), .ref 37], MW (upA (upA (upA (upA (upA A 33 u.2) 34 f34) 35 f35) 37 u.1) 32 row) B F sw, 0, 0)) 6 rfl ?_
                refine wp_iald rfl rfl (by omega) (by decide) ?_
                refine wp_eq (f' := (199, [.ref 28, .int (nI (lhN n nb)), .int (nI s), .int (nI k), .int (nI v), .int (nI 0), .int (nI (hhN n nb hi s v)), .int (nI (s ||| (2 ^ v))), .int (nI (hangN n nb v (s ||| (2 ^ v)))), .int (nI j)], [.int (u.2 j), .int (nI j), .ref 37], MW (upA (upA (upA (upA (upA A 33 u.2) 34 f34) 35 f35) 37 u.1) 32 row) B F sw, 0, 0)) rfl ?_
                refine wp_iast rfl rfl (by omega) (by decide) ?_
                refine wp_eq (f' := (200, [.ref 28, .int (nI (lhN n nb)), .int (nI s), .int (nI k), .int (nI v), .int (nI 0), .int (nI (hhN n nb hi s v)), .int (nI (s ||| (2 ^ v))), .int (nI (hangN n nb v (s ||| (2 ^ v)))), .int (nI j)], [], MW (upA (upA (upA (upA (upA A 33 u.2) 34 f34) 35 f35) 32 row) 37 (upd u.1 j (u.2 j))) B F sw, 0, 0)) rfl ?_
                refine wp_go (f' := (213, [.ref 28, .int (nI (lhN n nb)), .int (nI s), .int (nI k), .int (nI v), .int (nI 0), .int (nI (hhN n nb hi s v)), .int (nI (s ||| (2 ^ v))), .int (nI (hangN n nb v (s ||| (2 ^ v)))), .int (nI j)], [.int (((nI (hangN n nb v (s ||| (2 ^ v)))) >>> ((nI j) &&& 31)) &&& (nI 1)), .int (nI j), .ref 33], MW (upA (upA (upA (upA (upA A 33 u.2) 34 f34) 35 f35) 32 row) 37 (upd u.1 j (u.2 j))) B F sw, 0, 0)) 8 rfl ?_
                rw [bx_bit (by omega) (by omega)]
                refine wp_go (f' := ((if ¬ (bI ((hangN n nb v (s ||| (2 ^ v))).testBit j)) = (nI 1) then 222 else 217), [.ref 28, .int (nI (lhN n nb)), .int (nI s), .int (nI k), .int (nI v), .int (nI 0), .int (nI (hhN n nb hi s v)), .int (nI (s ||| (2 ^ v))), .int (nI (hangN n nb v (s ||| (2 ^ v)))), .int (nI j)], [.int (nI j), .ref 33], MW (upA (upA (upA (upA (upA A 33 u.2) 34 f34) 35 f35) 32 row) 37 (upd u.1 j (u.2 j))) B F sw, 0, 0)) 2 rfl ?_
                refine wp_ite (fun h1 => ?_) (fun h1 => ?_)
                · have h1 := bI_n1 h1
                  refine wp_go (f' := (228, [.ref 28, .int (nI (lhN n nb)), .int (nI s), .int (nI k), .int (nI v), .int (nI 0), .int (nI (hhN n nb hi s v)), .int (nI (s ||| (2 ^ v))), .int (nI (hangN n nb v (s ||| (2 ^ v)))), .int (nI j)], [.int (nI j), .ref 33, .int (nI j), .ref 33], MW (upA (upA (upA (upA (upA A 33 u.2) 34 f34) 35 f35) 32 row) 37 (upd u.1 j (u.2 j))) B F sw, 0, 0)) 3 rfl ?_
                  refine wp_iald rfl rfl (by omega) (by decide) ?_
                  refine wp_eq (f' := (229, [.ref 28, .int (nI (lhN n nb)), .int (nI s), .int (nI k), .int (nI v), .int (nI 0), .int (nI (hhN n nb hi s v)), .int (nI (s ||| (2 ^ v))), .int (nI (hangN n nb v (s ||| (2 ^ v)))), .int (nI j)], [.int (u.2 j), .int (nI j), .ref 33], MW (upA (upA (upA (upA (upA A 33 u.2) 34 f34) 35 f35) 32 row) 37 (upd u.1 j (u.2 j))) B F sw, 0, 0)) rfl ?_
                  refine wp_iast rfl rfl (by omega) (by decide) ?_
                  refine wp_eq (f' := (230, [.ref 28, .int (nI (lhN n nb)), .int (nI s), .int (nI k), .int (nI v), .int (nI 0), .int (nI (hhN n nb hi s v)), .int (nI (s ||| (2 ^ v))), .int (nI (hangN n nb v (s ||| (2 ^ v)))), .int (nI j)], [], MW (upA (upA (upA (upA (upA A 34 f34) 35 f35) 32 row) 37 (upd u.1 j (u.2 j))) 33 (upd u.2 j (u.2 j))) B F sw, 0, 0)) rfl ?_
                  refine wp_go (f' := (233, [.ref 28, .int (nI (lhN n nb)), .int (nI s), .int (nI k), .int (nI v), .int (nI 0), .int (nI (hhN n nb hi s v)), .int (nI (s ||| (2 ^ v))), .int (nI (hangN n nb v (s ||| (2 ^ v)))), .int ((nI j) + 1)], [], MW (upA (upA (upA (upA (upA A 34 f34) 35 f35) 32 row) 37 (upd u.1 j (u.2 j))) 33 (upd u.2 j (u.2 j))) B F sw, 0, 0)) 1 rfl ?_
                  rw [nI_1]
                  refine wp_go (f' := (177, [.ref 28, .int (nI (lhN n nb)), .int (nI s), .int (nI k), .int (nI v), .int (nI 0), .int (nI (hhN n nb hi s v)), .int (nI (s ||| (2 ^ v))), .int (nI (hangN n nb v (s ||| (2 ^ v)))), .int (nI (j + 1))], [], MW (upA (upA (upA (upA (upA A 34 f34) 35 f35) 32 row) 37 (upd u.1 j (u.2 j))) 33 (upd u.2 j (u.2 j))) B F sw, 0, 0)) 1 rfl ?_
                  have e1 : kpS (hangN n nb v (s ||| 2 ^ v)) (nI (hhN n nb hi s v)) j u = (upd u.1 j (u.2 j), upd u.2 j (u.2 j)) := by unfold kpS; rw [if_neg (by rw [h1]; decide)]
                  rw [e1] at ih4
                  exact ih4
                · have h1 := Classical.not_not.mp h1; have h1 := bI_1.mp h1
                  refine wp_go (f' := (229, [.ref 28, .int (nI (lhN n nb)), .int (nI s), .int (nI k), .int (nI v), .int (nI 0), .int (nI (hhN n nb hi s v)), .int (nI (s ||| (2 ^ v))), .int (nI (hangN n nb v (s ||| (2 ^ v)))), .int (nI j)], [.int (nI (hhN n nb hi s v)), .int (nI j), .ref 33], MW (upA (upA (upA (upA (upA A 33 u.2) 34 f34) 35 f35) 32 row) 37 (upd u.1 j (u.2 j))) B F sw, 0, 0)) 2 rfl ?_
                  refine wp_iast rfl rfl (by omega) (by decide) ?_
                  refine wp_eq (f' := (230, [.ref 28, .int (nI (lhN n nb)), .int (nI s), .int (nI k), .int (nI v), .int (nI 0), .int (nI (hhN n nb hi s v)), .int (nI (s ||| (2 ^ v))), .int (nI (hangN n nb v (s ||| (2 ^ v)))), .int (nI j)], [], MW (upA (upA (upA (upA (upA A 34 f34) 35 f35) 32 row) 37 (upd u.1 j (u.2 j))) 33 (upd u.2 j (nI (hhN n nb hi s v)))) B F sw, 0, 0)) rfl ?_
                  refine wp_go (f' := (233, [.ref 28, .int (nI (lhN n nb)), .int (nI s), .int (nI k), .int (nI v), .int (nI 0), .int (nI (hhN n nb hi s v)), .int (nI (s ||| (2 ^ v))), .int (nI (hangN n nb v (s ||| (2 ^ v)))), .int ((nI j) + 1)], [], MW (upA (upA (upA (upA (upA A 34 f34) 35 f35) 32 row) 37 (upd u.1 j (u.2 j))) 33 (upd u.2 j (nI (hhN n nb hi s v)))) B F sw, 0, 0)) 1 rfl ?_
                  rw [nI_1]
                  refine wp_go (f' := (177, [.ref 28, .int (nI (lhN n nb)), .int (nI s), .int (nI k), .int (nI v), .int (nI 0), .int (nI (hhN n nb hi s v)), .int (nI (s ||| (2 ^ v))), .int (nI (hangN n nb v (s ||| (2 ^ v)))), .int (nI (j + 1))], [], MW (upA (upA (upA (upA (upA A 34 f34) 35 f35) 32 row) 37 (upd u.1 j (u.2 j))) 33 (upd u.2 j (nI (hhN n nb hi s v)))) B F sw, 0, 0)) 1 rfl ?_
                  have e1 : kpS (hangN n nb v (s ||| 2 ^ v)) (nI (hhN n nb hi s v)) j u = (upd u.1 j (u.2 j), upd u.2 j (nI (hhN n nb hi s v))) := by unfold kpS; rw [if_pos h1]
                  rw [e1] at ih4
                  exact ih4
              · skip
                refine wp_go (f' := (183, [.ref 28, .int (nI (lhN n nb)), .int (nI s), .int (nI k), .int (nI v), .int (nI 0), .int (nI (hhN n nb hi s v)), .int (nI (s ||| (2 ^ v))), .int (nI (hangN n nb v (s ||| (2 ^ v)))), .int (nI n)], [.int (F 6), .int (nI n)], MW (upA (upA (upA (upA (upA A 33 (forN (kpS (hangN n nb v (s ||| 2 ^ v)) (nI (hhN n nb hi s v))) n (f37, f33)).2) 34 f34) 35 f35) 37 (forN (kpS (hangN n nb v (s ||| 2 ^ v)) (nI (hhN n nb hi s v))) n (f37, f33)).1) 32 row) B F sw, 0, 0)) 3 rfl ?_
                rw [hM.2.1]
                refine wp_go (f' := ((if (nI n) ≤ (nI n) then 236 else 186), [.ref 28, .int (nI (lhN n nb)), .int (nI s), .int (nI k), .int (nI v), .int (nI 0), .int (nI (hhN n nb hi s v)), .int (nI (s ||| (2 ^ v))), .int (nI (hangN n nb v (s ||| (2 ^ v)))), .int (nI n)], [], MW (upA (upA (upA (upA (upA A 33 (forN (kpS (hangN n nb v (s ||| 2 ^ v)) (nI (hhN n nb hi s v))) n (f37, f33)).2) 34 f34) 35 f35) 37 (forN (kpS (hangN n nb v (s ||| 2 ^ v)) (nI (hhN n nb hi s v))) n (f37, f33)).1) 32 row) B F sw, 0, 0)) 1 rfl ?_
                refine wp_ite (fun _ => ?_) (fun h9 => absurd (nI_le (Nat.le_refl _) (by omega)) h9)
                exact hr
          cases hok : rokN n nb (lhN n nb) hi s v with
          | true =>
            have hvV : v = (rpkN n nb (lhN n nb) hi s) := by
              rcases Nat.lt_or_ge v (rpkN n nb (lhN n nb) hi s) with g9 | g9
              · have h6 := w4 v (Nat.zero_le _) g9; rw [hok] at h6; cases h6
              · omega
            have hok2 : (hhN n nb hi s v) ≤ (lhN n nb) ∧ (beT n nb (hiU n nb hi s v) (s ||| 2 ^ v) (sd (2 ^ n - 1) (s ||| 2 ^ v))) ≤ (lhN n nb) := by unfold rokN at hok; simp at hok; exact hok.2
            obtain ⟨g33, g34, g35, g37, hW⟩ := ihh (forN (kpS (hangN n nb v (s ||| 2 ^ v)) (nI (hhN n nb hi s v))) n (f37, f33)).2 (beP n nb (hiU n nb hi s v) (s ||| 2 ^ v) f34).2 (joA n nb (s ||| 2 ^ v) f35) (forN (kpS (hangN n nb v (s ||| 2 ^ v)) (nI (hhN n nb hi s v))) n (f37, f33)).1 (by rw [← hvV]; exact fun j hj => ⟨(hkU j hj).1, hiU_le hn hhl j hj⟩) (.int (nI v)) (.int (nI 1)) (.int (nI (hhN n nb hi s v))) (.int (nI (s ||| 2 ^ v))) (.int (nI (hangN n nb v (s ||| 2 ^ v)))) (.int (nI n))
            rw [← hvV] at hW
            refine ⟨g33, g34, g35, g37, hto _ ?_⟩
            refine wp_go (f' := (239, [.ref 28, .int (nI (lhN n nb)), .int (nI s), .int (nI k), .int (nI v), .int (nI 0), .int (nI (hhN n nb hi s v)), .int (nI (s ||| 2 ^ v)), .int (nI (hangN n nb v (s ||| 2 ^ v))), .int (nI n)], [.int (nI (s ||| 2 ^ v)), .ref 28], MW (upA (upA (upA (upA (upA A 33 (forN (kpS (hangN n nb v (s ||| 2 ^ v)) (nI (hhN n nb hi s v))) n (f37, f33)).2) 34 f34) 35 f35) 37 (forN (kpS (hangN n nb v (s ||| 2 ^ v)) (nI (hhN n nb hi s v))) n (f37, f33)).1) 32 row) B F sw, 0, 0)) 2 rfl ?_
            refine wp_call rfl rfl rfl (ev_up (ev_tellHigh (A := (upA (upA (upA (upA (upA A 33 (forN (kpS (hangN n nb v (s ||| 2 ^ v)) (nI (hhN n nb hi s v))) n (f37, f33)).2) 34 f34) 35 f35) 37 (forN (kpS (hangN n nb v (s ||| 2 ^ v)) (nI (hhN n nb hi s v))) n (f37, f33)).1) 32 row)) hM (hi := (hiU n nb hi s v)) hkU (a := (s ||| 2 ^ v)) hnwl) (by decide)) ?_
            refine wp_eq (f' := (242, [.ref 28, .int (nI (lhN n nb)), .int (nI s), .int (nI k), .int (nI v), .int (nI 0), .int (nI (hhN n nb hi s v)), .int (nI (s ||| 2 ^ v)), .int (nI (hangN n nb v (s ||| 2 ^ v))), .int (nI n)], [], MW (upA (upA (upA (upA (upA A 33 (forN (kpS (hangN n nb v (s ||| 2 ^ v)) (nI (hhN n nb hi s v))) n (f37, f33)).2) 34 (beP n nb (hiU n nb hi s v) (s ||| 2 ^ v) f34).2) 35 (joA n nb (s ||| 2 ^ v) f35)) 37 (forN (kpS (hangN n nb v (s ||| 2 ^ v)) (nI (hhN n nb hi s v))) n (f37, f33)).1) 32 row) B F sw, 0, 0)) rfl ?_
            refine wp_go (f' := ((if (nI (lhN n nb)) < (nI (hhN n nb hi s v)) then 270 else 248), [.ref 28, .int (nI (lhN n nb)), .int (nI s), .int (nI k), .int (nI v), .int (nI 0), .int (nI (hhN n nb hi s v)), .int (nI (s ||| 2 ^ v)), .int (nI (hangN n nb v (s ||| 2 ^ v))), .int (nI n)], [], MW (upA (upA (upA (upA (upA A 33 (forN (kpS (hangN n nb v (s ||| 2 ^ v)) (nI (hhN n nb hi s v))) n (f37, f33)).2) 34 (beP n nb (hiU n nb hi s v) (s ||| 2 ^ v) f34).2) 35 (joA n nb (s ||| 2 ^ v) f35)) 37 (forN (kpS (hangN n nb v (s ||| 2 ^ v)) (nI (hhN n nb hi s v))) n (f37, f33)).1) 32 row) B F sw, 0, 0)) 3 rfl ?_
            refine wp_ite (fun h9 => absurd h9 (nI_nlt (by omega) (by omega))) (fun _ => ?_)
            refine wp_go (f' := (253, [.ref 28, .int (nI (lhN n nb)), .int (nI s), .int (nI k), .int (nI v), .int (nI 0), .int (nI (hhN n nb hi s v)), .int (nI (s ||| 2 ^ v)), .int (nI (hangN n nb v (s ||| 2 ^ v))), .int (nI n)], [.ref 28, .ref 34], MW (upA (upA (upA (upA (upA A 33 (forN (kpS (hangN n nb v (s ||| 2 ^ v)) (nI (hhN n nb hi s v))) n (f37, f33)).2) 34 (beP n nb (hiU n nb hi s v) (s ||| 2 ^ v) f34).2) 35 (joA n nb (s ||| 2 ^ v) f35)) 37 (forN (kpS (hangN n nb v (s ||| 2 ^ v)) (nI (hhN n nb hi s v))) n (f37, f33)).1) 32 row) B F sw, 0, 0)) 3 rfl ?_
            refine wp_call rfl rfl rfl (ev_up (ev_all (A := (upA (upA (upA (upA (upA A 33 (forN (kpS (hangN n nb v (s ||| 2 ^ v)) (nI (hhN n nb hi s v))) n (f37, f33)).2) 34 (beP n nb (hiU n nb hi s v) (s ||| 2 ^ v) f34).2) 35 (joA n nb (s ||| 2 ^ v) f35)) 37 (forN (kpS (hangN n nb v (s ||| 2 ^ v)) (nI (hhN n nb hi s v))) n (f37, f33)).1) 32 row)) hM) (by decide)) ?_
            refine wp_eq (f' := (256, [.ref 28, .int (nI (lhN n nb)), .int (nI s), .int (nI k), .int (nI v), .int (nI 0), .int (nI (hhN n nb hi s v)), .int (nI (s ||| 2 ^ v)), .int (nI (hangN n nb v (s ||| 2 ^ v))), .int (nI n)], [.int (nI (2 ^ n - 1)), .ref 34], MW (upA (upA (upA (upA (upA A 33 (forN (kpS (hangN n nb v (s ||| 2 ^ v)) (nI (hhN n nb hi s v))) n (f37, f33)).2) 34 (beP n nb (hiU n nb hi s v) (s ||| 2 ^ v) f34).2) 35 (joA n nb (s ||| 2 ^ v) f35)) 37 (forN (kpS (hangN n nb v (s ||| 2 ^ v)) (nI (hhN n nb hi s v))) n (f37, f33)).1) 32 row) B F sw, 0, 0)) rfl ?_
            refine wp_go (f' := (261, [.ref 28, .int (nI (lhN n nb)), .int (nI s), .int (nI k), .int (nI v), .int (nI 0), .int (nI (hhN n nb hi s v)), .int (nI (s ||| 2 ^ v)), .int (nI (hangN n nb v (s ||| 2 ^ v))), .int (nI n)], [.int ((nI (2 ^ n - 1)) &&& ((nI (s ||| 2 ^ v)) ^^^ (-1))), .ref 34], MW (upA (upA (upA (upA (upA A 33 (forN (kpS (hangN n nb v (s ||| 2 ^ v)) (nI (hhN n nb hi s v))) n (f37, f33)).2) 34 (beP n nb (hiU n nb hi s v) (s ||| 2 ^ v) f34).2) 35 (joA n nb (s ||| 2 ^ v) f35)) 37 (forN (kpS (hangN n nb v (s ||| 2 ^ v)) (nI (hhN n nb hi s v))) n (f37, f33)).1) 32 row) B F sw, 0, 0)) 4 rfl ?_
            rw [bx_sd (by omega)]
            refine wp_iald rfl rfl (by omega) (by decide) ?_
            refine wp_eq (f' := (262, [.ref 28, .int (nI (lhN n nb)), .int (nI s), .int (nI k), .int (nI v), .int (nI 0), .int (nI (hhN n nb hi s v)), .int (nI (s ||| 2 ^ v)), .int (nI (hangN n nb v (s ||| 2 ^ v))), .int (nI n)], [.int ((beP n nb (hiU n nb hi s v) (s ||| 2 ^ v) f34).2 (sd (2 ^ n - 1) (s ||| 2 ^ v)))], MW (upA (upA (upA (upA (upA A 33 (forN (kpS (hangN n nb v (s ||| 2 ^ v)) (nI (hhN n nb hi s v))) n (f37, f33)).2) 34 (beP n nb (hiU n nb hi s v) (s ||| 2 ^ v) f34).2) 35 (joA n nb (s ||| 2 ^ v) f35)) 37 (forN (kpS (hangN n nb v (s ||| 2 ^ v)) (nI (hhN n nb hi s v))) n (f37, f33)).1) 32 row) B F sw, 0, 0)) rfl ?_
            rw [hbe.1]
            refine wp_go (f' := ((if (nI (lhN n nb)) < (nI (beT n nb (hiU n nb hi s v) (s ||| 2 ^ v) (sd (2 ^ n - 1) (s ||| 2 ^ v)))) then 270 else 266), [.ref 28, .int (nI (lhN n nb)), .int (nI s), .int (nI k), .int (nI v), .int (nI 0), .int (nI (hhN n nb hi s v)), .int (nI (s ||| 2 ^ v)), .int (nI (hangN n nb v (s ||| 2 ^ v))), .int (nI n)], [], MW (upA (upA (upA (upA (upA A 33 (forN (kpS (hangN n nb v (s ||| 2 ^ v)) (nI (hhN n nb hi s v))) n (f37, f33)).2) 34 (beP n nb (hiU n nb hi s v) (s ||| 2 ^ v) f34).2) 35 (joA n nb (s ||| 2 ^ v) f35)) 37 (forN (kpS (hangN n nb v (s ||| 2 ^ v)) (nI (hhN n nb hi s v))) n (f37, f33)).1) 32 row) B F sw, 0, 0)) 2 rfl ?_
            refine wp_ite (fun h9 => absurd h9 (nI_nlt (by omega) (by omega))) (fun _ => ?_)
            refine wp_go (f' := ((if (nI 1) = 0 then 292 else 278), [.ref 28, .int (nI (lhN n nb)), .int (nI s), .int (nI k), .int (nI v), .int (nI 1), .int (nI (hhN n nb hi s v)), .int (nI (s ||| 2 ^ v)), .int (nI (hangN n nb v (s ||| 2 ^ v))), .int (nI n)], [], MW (upA (upA (upA (upA (upA A 33 (forN (kpS (hangN n nb v (s ||| 2 ^ v)) (nI (hhN n nb hi s v))) n (f37, f33)).2) 34 (beP n nb (hiU n nb hi s v) (s ||| 2 ^ v) f34).2) 35 (joA n nb (s ||| 2 ^ v) f35)) 37 (forN (kpS (hangN n nb v (s ||| 2 ^ v)) (nI (hhN n nb hi s v))) n (f37, f33)).1) 32 row) B F sw, 0, 0)) 5 rfl ?_
            refine wp_ite (fun h9 => absurd h9 (by decide)) (fun _ => ?_)
            refine wp_go (f' := (285, [.ref 28, .int (nI (lhN n nb)), .int (nI s), .int (nI k), .int (nI v), .int (nI 1), .int (nI (hhN n nb hi s v)), .int (nI (s ||| 2 ^ v)), .int (nI (hangN n nb v (s ||| 2 ^ v))), .int (nI n)], [.int (nI v), .int (nI k), .ref 32], MW (upA (upA (upA (upA (upA A 33 (forN (kpS (hangN n nb v (s ||| 2 ^ v)) (nI (hhN n nb hi s v))) n (f37, f33)).2) 34 (beP n nb (hiU n nb hi s v) (s ||| 2 ^ v) f34).2) 35 (joA n nb (s ||| 2 ^ v) f35)) 37 (forN (kpS (hangN n nb v (s ||| 2 ^ v)) (nI (hhN n nb hi s v))) n (f37, f33)).1) 32 row) B F sw, 0, 0)) 4 rfl ?_
            refine wp_iast rfl rfl (by omega) (by decide) ?_
            refine wp_eq (f' := (286, [.ref 28, .int (nI (lhN n nb)), .int (nI s), .int (nI k), .int (nI v), .int (nI 1), .int (nI (hhN n nb hi s v)), .int (nI (s ||| 2 ^ v)), .int (nI (hangN n nb v (s ||| 2 ^ v))), .int (nI n)], [], MW (upA (upA (upA (upA (upA A 33 (forN (kpS (hangN n nb v (s ||| 2 ^ v)) (nI (hhN n nb hi s v))) n (f37, f33)).2) 34 (beP n nb (hiU n nb hi s v) (s ||| 2 ^ v) f34).2) 35 (joA n nb (s ||| 2 ^ v) f35)) 37 (forN (kpS (hangN n nb v (s ||| 2 ^ v)) (nI (hhN n nb hi s v))) n (f37, f33)).1) 32 (upd row k (nI v))) B F sw, 0, 0)) rfl ?_
            refine wp_go (f' := ((if ¬ (nI 1) = 0 then 330 else 59), [.ref 28, .int (nI (lhN n nb)), .int (nI (s ||| 2 ^ v)), .int (nI k), .int (nI v), .int (nI 1), .int (nI (hhN n nb hi s v)), .int (nI (s ||| 2 ^ v)), .int (nI (hangN n nb v (s ||| 2 ^ v))), .int (nI n)], [], MW (upA (upA (upA (upA (upA A 33 (forN (kpS (hangN n nb v (s ||| 2 ^ v)) (nI (hhN n nb hi s v))) n (f37, f33)).2) 34 (beP n nb (hiU n nb hi s v) (s ||| 2 ^ v) f34).2) 35 (joA n nb (s ||| 2 ^ v) f35)) 37 (forN (kpS (hangN n nb v (s ||| 2 ^ v)) (nI (hhN n nb hi s v))) n (f37, f33)).1) 32 (upd row k (nI v))) B F sw, 0, 0)) 6 rfl ?_
            refine wp_ite (fun _ => ?_) (fun h9 => absurd (by decide) h9)
            refine wp_go (f' := (333, [.ref 28, .int (nI (lhN n nb)), .int (nI (s ||| 2 ^ v)), .int ((nI k) + 1), .int (nI v), .int (nI 1), .int (nI (hhN n nb hi s v)), .int (nI (s ||| 2 ^ v)), .int (nI (hangN n nb v (s ||| 2 ^ v))), .int (nI n)], [], MW (upA (upA (upA (upA (upA A 33 (forN (kpS (hangN n nb v (s ||| 2 ^ v)) (nI (hhN n nb hi s v))) n (f37, f33)).2) 34 (beP n nb (hiU n nb hi s v) (s ||| 2 ^ v) f34).2) 35 (joA n nb (s ||| 2 ^ v) f35)) 37 (forN (kpS (hangN n nb v (s ||| 2 ^ v)) (nI (hhN n nb hi s v))) n (f37, f33)).1) 32 (upd row k (nI v))) B F sw, 0, 0)) 1 rfl ?_
            rw [nI_1]
            refine wp_go (f' := (40, [.ref 28, .int (nI (lhN n nb)), .int (nI (s ||| 2 ^ v)), .int (nI (k + 1)), .int (nI v), .int (nI 1), .int (nI (hhN n nb hi s v)), .int (nI (s ||| 2 ^ v)), .int (nI (hangN n nb v (s ||| 2 ^ v))), .int (nI n)], [], MW (upA (upA (upA (upA (upA A 33 (forN (kpS (hangN n nb v (s ||| 2 ^ v)) (nI (hhN n nb hi s v))) n (f37, f33)).2) 34 (beP n nb (hiU n nb hi s v) (s ||| 2 ^ v) f34).2) 35 (joA n nb (s ||| 2 ^ v) f35)) 37 (forN (kpS (hangN n nb v (s ||| 2 ^ v)) (nI (hhN n nb hi s v))) n (f37, f33)).1) 32 (upd row k (nI v))) B F sw, 0, 0)) 1 rfl ?_
            exact hW
          | false =>
            have hne : v ≠ (rpkN n nb (lhN n nb) hi s) := fun e => by have h5 := w3 (by omega); rw [← e, hok] at h5; cases h5
            have hok2 : ¬ ((hhN n nb hi s v) ≤ (lhN n nb) ∧ (beT n nb (hiU n nb hi s v) (s ||| 2 ^ v) (sd (2 ^ n - 1) (s ||| 2 ^ v))) ≤ (lhN n nb)) := by unfold rokN at hok; rw [hsb] at hok; intro h5; rw [decide_eq_true h5.1, decide_eq_true h5.2] at hok; cases hok
            have hrs : ∀ j, j < 10 → (forN (fun j f => upd f j ((forN (kpS (hangN n nb v (s ||| 2 ^ v)) (nI (hhN n nb hi s v))) n (f37, f33)).1 j)) n (forN (kpS (hangN n nb v (s ||| 2 ^ v)) (nI (hhN n nb hi s v))) n (f37, f33)).2) j = nI (hi j) := by
              intro j hj
              by_cases hjn : j < n
              · rw [(rs_ok j).1 hjn, ((hkp j).1 hjn).1]; exact hh33 j hj
              · rw [(rs_ok j).2 (by omega), (hkp j).2 (by omega)]; exact hh33 j hj
            obtain ⟨g33, g34, g35, g37, hW⟩ := ihv (v + 1) (by omega) (by omega) (forN (fun j f => upd f j ((forN (kpS (hangN n nb v (s ||| 2 ^ v)) (nI (hhN n nb hi s v))) n (f37, f33)).1 j)) n (forN (kpS (hangN n nb v (s ||| 2 ^ v)) (nI (hhN n nb hi s v))) n (f37, f33)).2) (beP n nb (hiU n nb hi s v) (s ||| 2 ^ v) f34).2 (joA n nb (s ||| 2 ^ v) f35) (forN (kpS (hangN n nb v (s ||| 2 ^ v)) (nI (hhN n nb hi s v))) n (f37, f33)).1 hrs (.int (nI (hhN n nb hi s v))) (.int (nI (s ||| 2 ^ v))) (.int (nI (hangN n nb v (s ||| 2 ^ v)))) (.int (nI n))
            refine ⟨g33, g34, g35, g37, hto _ ?_⟩
            have hback : mv_Wp xs Ls 3 6 false (some .int) mv_c111 (295, [.ref 28, .int (nI (lhN n nb)), .int (nI s), .int (nI k), .int (nI v), .int (nI 0), .int (nI (hhN n nb hi s v)), .int (nI (s ||| 2 ^ v)), .int (nI (hangN n nb v (s ||| 2 ^ v))), .int (nI 0)], [], MW (upA (upA (upA (upA (upA A 33 (forN (kpS (hangN n nb v (s ||| 2 ^ v)) (nI (hhN n nb hi s v))) n (f37, f33)).2) 34 (beP n nb (hiU n nb hi s v) (s ||| 2 ^ v) f34).2) 35 (joA n nb (s ||| 2 ^ v) f35)) 37 (forN (kpS (hangN n nb v (s ||| 2 ^ v)) (nI (hhN n nb hi s v))) n (f37, f33)).1) 32 row) B F sw, 0, 0) (some (.int (nI (lhN n nb))), MW (upA (upA (upA (upA (upA A 33 g33) 34 g34) 35 g35) 37 g37) 32 (rhyN n nb (A 32) n).2.2) B F sw, 0, 0) := by
              refine for_ind (P := fun (j : Nat) (f : Nat → Int32) => mv_Wp xs Ls 3 6 false (some .int) mv_c111 (295, [.ref 28, .int (nI (lhN n nb)), .int (nI s), .int (nI k), .int (nI v), .int (nI 0), .int (nI (hhN n nb hi s v)), .int (nI (s ||| 2 ^ v)), .int (nI (hangN n nb v (s ||| 2 ^ v))), .int (nI j)], [], MW (upA (upA (upA (upA (upA A 33 f) 34 (beP n nb (hiU n nb hi s v) (s ||| 2 ^ v) f34).2) 35 (joA n nb (s ||| 2 ^ v) f35)) 37 (forN (kpS (hangN n nb v (s ||| 2 ^ v)) (nI (hhN n nb hi s v))) n (f37, f33)).1) 32 row) B F sw, 0, 0) (some (.int (nI (lhN n nb))), MW (upA (upA (upA (upA (upA A 33 g33) 34 g34) 35 g35) 37 g37) 32 (rhyN n nb (A 32) n).2.2) B F sw, 0, 0)) (f := fun j f => upd f j ((forN (kpS (hangN n nb v (s ||| 2 ^ v)) (nI (hhN n nb hi s v))) n (f37, f33)).1 j)) (n := n) ?_ n (forN (kpS (hangN n nb v (s ||| 2 ^ v)) (nI (hhN n nb hi s v))) n (f37, f33)).2 (Nat.le_refl _) ?_
              · intro j f hj ih5
                refine wp_go (f' := (301, [.ref 28, .int (nI (lhN n nb)), .int (nI s), .int (nI k), .int (nI v), .int (nI 0), .int (nI (hhN n nb hi s v)), .int (nI (s ||| 2 ^ v)), .int (nI (hangN n nb v (s ||| 2 ^ v))), .int (nI j)], [.int (F 6), .int (nI j)], MW (upA (upA (upA (upA (upA A 33 f) 34 (beP n nb (hiU n nb hi s v) (s ||| 2 ^ v) f34).2) 35 (joA n nb (s ||| 2 ^ v) f35)) 37 (forN (kpS (hangN n nb v (s ||| 2 ^ v)) (nI (hhN n nb hi s v))) n (f37, f33)).1) 32 row) B F sw, 0, 0)) 3 rfl ?_
                rw [hM.2.1]
                refine wp_go (f' := ((if (nI n) ≤ (nI j) then 324 else 304), [.ref 28, .int (nI (lhN n nb)), .int (nI s), .int (nI k), .int (nI v), .int (nI 0), .int (nI (hhN n nb hi s v)), .int (nI (s ||| 2 ^ v)), .int (nI (hangN n nb v (s ||| 2 ^ v))), .int (nI j)], [], MW (upA (upA (upA (upA (upA A 33 f) 34 (beP n nb (hiU n nb hi s v) (s ||| 2 ^ v) f34).2) 35 (joA n nb (s ||| 2 ^ v) f35)) 37 (forN (kpS (hangN n nb v (s ||| 2 ^ v)) (nI (hhN n nb hi s v))) n (f37, f33)).1) 32 row) B F sw, 0, 0)) 1 rfl ?_
                refine wp_ite (fun h9 => absurd h9 (nI_ge hj (by omega))) (fun _ => ?_)
                refine wp_go (f' := (316, [.ref 28, .int (nI (lhN n nb)), .int (nI s), .int (nI k), .int (nI v), .int (nI 0), .int (nI (hhN n nb hi s v)), .int (nI (s ||| 2 ^ v)), .int (nI (hangN n nb v (s ||| 2 ^ v))), .int (nI j)], [.int (nI j), .ref 37, .int (nI j), .ref 33], MW (upA (upA (upA (upA (upA A 33 f) 34 (beP n nb (hiU n nb hi s v) (s ||| 2 ^ v) f34).2) 35 (joA n nb (s ||| 2 ^ v) f35)) 37 (forN (kpS (hangN n nb v (s ||| 2 ^ v)) (nI (hhN n nb hi s v))) n (f37, f33)).1) 32 row) B F sw, 0, 0)) 6 rfl ?_
                refine wp_iald rfl rfl (by omega) (by decide) ?_
                refine wp_eq (f' := (317, [.ref 28, .int (nI (lhN n nb)), .int (nI s), .int (nI k), .int (nI v), .int (nI 0), .int (nI (hhN n nb hi s v)), .int (nI (s ||| 2 ^ v)), .int (nI (hangN n nb v (s ||| 2 ^ v))), .int (nI j)], [.int ((forN (kpS (hangN n nb v (s ||| 2 ^ v)) (nI (hhN n nb hi s v))) n (f37, f33)).1 j), .int (nI j), .ref 33], MW (upA (upA (upA (upA (upA A 33 f) 34 (beP n nb (hiU n nb hi s v) (s ||| 2 ^ v) f34).2) 35 (joA n nb (s ||| 2 ^ v) f35)) 37 (forN (kpS (hangN n nb v (s ||| 2 ^ v)) (nI (hhN n nb hi s v))) n (f37, f33)).1) 32 row) B F sw, 0, 0)) rfl ?_
                refine wp_iast rfl rfl (by omega) (by decide) ?_
                refine wp_eq (f' := (318, [.ref 28, .int (nI (lhN n nb)), .int (nI s), .int (nI k), .int (nI v), .int (nI 0), .int (nI (hhN n nb hi s v)), .int (nI (s ||| 2 ^ v)), .int (nI (hangN n nb v (s ||| 2 ^ v))), .int (nI j)], [], MW (upA (upA (upA (upA (upA A 34 (beP n nb (hiU n nb hi s v) (s ||| 2 ^ v) f34).2) 35 (joA n nb (s ||| 2 ^ v) f35)) 37 (forN (kpS (hangN n nb v (s ||| 2 ^ v)) (nI (hhN n nb hi s v))) n (f37, f33)).1) 32 row) 33 (upd f j ((forN (kpS (hangN n nb v (s ||| 2 ^ v)) (nI (hhN n nb hi s v))) n (f37, f33)).1 j))) B F sw, 0, 0)) rfl ?_
                refine wp_go (f' := (321, [.ref 28, .int (nI (lhN n nb)), .int (nI s), .int (nI k), .int (nI v), .int (nI 0), .int (nI (hhN n nb hi s v)), .int (nI (s ||| 2 ^ v)), .int (nI (hangN n nb v (s ||| 2 ^ v))), .int ((nI j) + 1)], [], MW (upA (upA (upA (upA (upA A 34 (beP n nb (hiU n nb hi s v) (s ||| 2 ^ v) f34).2) 35 (joA n nb (s ||| 2 ^ v) f35)) 37 (forN (kpS (hangN n nb v (s ||| 2 ^ v)) (nI (hhN n nb hi s v))) n (f37, f33)).1) 32 row) 33 (upd f j ((forN (kpS (hangN n nb v (s ||| 2 ^ v)) (nI (hhN n nb hi s v))) n (f37, f33)).1 j))) B F sw, 0, 0)) 1 rfl ?_
                rw [nI_1]
                refine wp_go (f' := (295, [.ref 28, .int (nI (lhN n nb)), .int (nI s), .int (nI k), .int (nI v), .int (nI 0), .int (nI (hhN n nb hi s v)), .int (nI (s ||| 2 ^ v)), .int (nI (hangN n nb v (s ||| 2 ^ v))), .int (nI (j + 1))], [], MW (upA (upA (upA (upA (upA A 34 (beP n nb (hiU n nb hi s v) (s ||| 2 ^ v) f34).2) 35 (joA n nb (s ||| 2 ^ v) f35)) 37 (forN (kpS (hangN n nb v (s ||| 2 ^ v)) (nI (hhN n nb hi s v))) n (f37, f33)).1) 32 row) 33 (upd f j ((forN (kpS (hangN n nb v (s ||| 2 ^ v)) (nI (hhN n nb hi s v))) n (f37, f33)).1 j))) B F sw, 0, 0)) 1 rfl ?_
                exact ih5
              · skip
                refine wp_go (f' := (301, [.ref 28, .int (nI (lhN n nb)), .int (nI s), .int (nI k), .int (nI v), .int (nI 0), .int (nI (hhN n nb hi s v)), .int (nI (s ||| 2 ^ v)), .int (nI (hangN n nb v (s ||| 2 ^ v))), .int (nI n)], [.int (F 6), .int (nI n)], MW (upA (upA (upA (upA (upA A 33 (forN (fun j f => upd f j ((forN (kpS (hangN n nb v (s ||| 2 ^ v)) (nI (hhN n nb hi s v))) n (f37, f33)).1 j)) n (forN (kpS (hangN n nb v (s ||| 2 ^ v)) (nI (hhN n nb hi s v))) n (f37, f33)).2)) 34 (beP n nb (hiU n nb hi s v) (s ||| 2 ^ v) f34).2) 35 (joA n nb (s ||| 2 ^ v) f35)) 37 (forN (kpS (hangN n nb v (s ||| 2 ^ v)) (nI (hhN n nb hi s v))) n (f37, f33)).1) 32 row) B F sw, 0, 0)) 3 rfl ?_
                rw [hM.2.1]
                refine wp_go (f' := ((if (nI n) ≤ (nI n) then 324 else 304), [.ref 28, .int (nI (lhN n nb)), .int (nI s), .int (nI k), .int (nI v), .int (nI 0), .int (nI (hhN n nb hi s v)), .int (nI (s ||| 2 ^ v)), .int (nI (hangN n nb v (s ||| 2 ^ v))), .int (nI n)], [], MW (upA (upA (upA (upA (upA A 33 (forN (fun j f => upd f j ((forN (kpS (hangN n nb v (s ||| 2 ^ v)) (nI (hhN n nb hi s v))) n (f37, f33)).1 j)) n (forN (kpS (hangN n nb v (s ||| 2 ^ v)) (nI (hhN n nb hi s v))) n (f37, f33)).2)) 34 (beP n nb (hiU n nb hi s v) (s ||| 2 ^ v) f34).2) 35 (joA n nb (s ||| 2 ^ v) f35)) 37 (forN (kpS (hangN n nb v (s ||| 2 ^ v)) (nI (hhN n nb hi s v))) n (f37, f33)).1) 32 row) B F sw, 0, 0)) 1 rfl ?_
                refine wp_ite (fun _ => ?_) (fun h9 => absurd (nI_le (Nat.le_refl _) (by omega)) h9)
                refine wp_go (f' := (327, [.ref 28, .int (nI (lhN n nb)), .int (nI s), .int (nI k), .int ((nI v) + 1), .int (nI 0), .int (nI (hhN n nb hi s v)), .int (nI (s ||| 2 ^ v)), .int (nI (hangN n nb v (s ||| 2 ^ v))), .int (nI n)], [], MW (upA (upA (upA (upA (upA A 33 (forN (fun j f => upd f j ((forN (kpS (hangN n nb v (s ||| 2 ^ v)) (nI (hhN n nb hi s v))) n (f37, f33)).1 j)) n (forN (kpS (hangN n nb v (s ||| 2 ^ v)) (nI (hhN n nb hi s v))) n (f37, f33)).2)) 34 (beP n nb (hiU n nb hi s v) (s ||| 2 ^ v) f34).2) 35 (joA n nb (s ||| 2 ^ v) f35)) 37 (forN (kpS (hangN n nb v (s ||| 2 ^ v)) (nI (hhN n nb hi s v))) n (f37, f33)).1) 32 row) B F sw, 0, 0)) 1 rfl ?_
                rw [nI_1]
                refine wp_go (f' := ((if ¬ (nI 0) = 0 then 330 else 59), [.ref 28, .int (nI (lhN n nb)), .int (nI s), .int (nI k), .int (nI (v + 1)), .int (nI 0), .int (nI (hhN n nb hi s v)), .int (nI (s ||| 2 ^ v)), .int (nI (hangN n nb v (s ||| 2 ^ v))), .int (nI n)], [], MW (upA (upA (upA (upA (upA A 33 (forN (fun j f => upd f j ((forN (kpS (hangN n nb v (s ||| 2 ^ v)) (nI (hhN n nb hi s v))) n (f37, f33)).1 j)) n (forN (kpS (hangN n nb v (s ||| 2 ^ v)) (nI (hhN n nb hi s v))) n (f37, f33)).2)) 34 (beP n nb (hiU n nb hi s v) (s ||| 2 ^ v) f34).2) 35 (joA n nb (s ||| 2 ^ v) f35)) 37 (forN (kpS (hangN n nb v (s ||| 2 ^ v)) (nI (hhN n nb hi s v))) n (f37, f33)).1) 32 row) B F sw, 0, 0)) 3 rfl ?_
                refine wp_ite (fun h9 => absurd h9 (fun h8 => h8 rfl)) (fun _ => ?_)
                exact hW
            refine wp_go (f' := (239, [.ref 28, .int (nI (lhN n nb)), .int (nI s), .int (nI k), .int (nI v), .int (nI 0), .int (nI (hhN n nb hi s v)), .int (nI (s ||| 2 ^ v)), .int (nI (hangN n nb v (s ||| 2 ^ v))), .int (nI n)], [.int (nI (s ||| 2 ^ v)), .ref 28], MW (upA (upA (upA (upA (upA A 33 (forN (kpS (hangN n nb v (s ||| 2 ^ v)) (nI (hhN n nb hi s v))) n (f37, f33)).2) 34 f34) 35 f35) 37 (forN (kpS (hangN n nb v (s ||| 2 ^ v)) (nI (hhN n nb hi s v))) n (f37, f33)).1) 32 row) B F sw, 0, 0)) 2 rfl ?_
            refine wp_call rfl rfl rfl (ev_up (ev_tellHigh (A := (upA (upA (upA (upA (upA A 33 (forN (kpS (hangN n nb v (s ||| 2 ^ v)) (nI (hhN n nb hi s v))) n (f37, f33)).2) 34 f34) 35 f35) 37 (forN (kpS (hangN n nb v (s ||| 2 ^ v)) (nI (hhN n nb hi s v))) n (f37, f33)).1) 32 row)) hM (hi := (hiU n nb hi s v)) hkU (a := (s ||| 2 ^ v)) hnwl) (by decide)) ?_
            refine wp_eq (f' := (242, [.ref 28, .int (nI (lhN n nb)), .int (nI s), .int (nI k), .int (nI v), .int (nI 0), .int (nI (hhN n nb hi s v)), .int (nI (s ||| 2 ^ v)), .int (nI (hangN n nb v (s ||| 2 ^ v))), .int (nI n)], [], MW (upA (upA (upA (upA (upA A 33 (forN (kpS (hangN n nb v (s ||| 2 ^ v)) (nI (hhN n nb hi s v))) n (f37, f33)).2) 34 (beP n nb (hiU n nb hi s v) (s ||| 2 ^ v) f34).2) 35 (joA n nb (s ||| 2 ^ v) f35)) 37 (forN (kpS (hangN n nb v (s ||| 2 ^ v)) (nI (hhN n nb hi s v))) n (f37, f33)).1) 32 row) B F sw, 0, 0)) rfl ?_
            refine wp_go (f' := ((if (nI (lhN n nb)) < (nI (hhN n nb hi s v)) then 270 else 248), [.ref 28, .int (nI (lhN n nb)), .int (nI s), .int (nI k), .int (nI v), .int (nI 0), .int (nI (hhN n nb hi s v)), .int (nI (s ||| 2 ^ v)), .int (nI (hangN n nb v (s ||| 2 ^ v))), .int (nI n)], [], MW (upA (upA (upA (upA (upA A 33 (forN (kpS (hangN n nb v (s ||| 2 ^ v)) (nI (hhN n nb hi s v))) n (f37, f33)).2) 34 (beP n nb (hiU n nb hi s v) (s ||| 2 ^ v) f34).2) 35 (joA n nb (s ||| 2 ^ v) f35)) 37 (forN (kpS (hangN n nb v (s ||| 2 ^ v)) (nI (hhN n nb hi s v))) n (f37, f33)).1) 32 row) B F sw, 0, 0)) 3 rfl ?_
            refine wp_ite (fun h1 => ?_) (fun h1 => ?_)
            · have h1 : lhN n nb < hhN n nb hi s v := (nI_ltI (a := lhN n nb) (b := hhN n nb hi s v) (by omega) (by omega)).mp h1
              refine wp_go (f' := ((if (nI 0) = 0 then 292 else 278), [.ref 28, .int (nI (lhN n nb)), .int (nI s), .int (nI k), .int (nI v), .int (nI 0), .int (nI (hhN n nb hi s v)), .int (nI (s ||| 2 ^ v)), .int (nI (hangN n nb v (s ||| 2 ^ v))), .int (nI n)], [], MW (upA (upA (upA (upA (upA A 33 (forN (kpS (hangN n nb v (s ||| 2 ^ v)) (nI (hhN n nb hi s v))) n (f37, f33)).2) 34 (beP n nb (hiU n nb hi s v) (s ||| 2 ^ v) f34).2) 35 (joA n nb (s ||| 2 ^ v) f35)) 37 (forN (kpS (hangN n nb v (s ||| 2 ^ v)) (nI (hhN n nb hi s v))) n (f37, f33)).1) 32 row) B F sw, 0, 0)) 4 rfl ?_
              refine wp_ite (fun _ => ?_) (fun h9 => absurd rfl h9)
              refine wp_go (f' := (295, [.ref 28, .int (nI (lhN n nb)), .int (nI s), .int (nI k), .int (nI v), .int (nI 0), .int (nI (hhN n nb hi s v)), .int (nI (s ||| 2 ^ v)), .int (nI (hangN n nb v (s ||| 2 ^ v))), .int (nI 0)], [], MW (upA (upA (upA (upA (upA A 33 (forN (kpS (hangN n nb v (s ||| 2 ^ v)) (nI (hhN n nb hi s v))) n (f37, f33)).2) 34 (beP n nb (hiU n nb hi s v) (s ||| 2 ^ v) f34).2) 35 (joA n nb (s ||| 2 ^ v) f35)) 37 (forN (kpS (hangN n nb v (s ||| 2 ^ v)) (nI (hhN n nb hi s v))) n (f37, f33)).1) 32 row) B F sw, 0, 0)) 2 rfl ?_
              exact hback
            · have h1 : ¬ (lhN n nb < hhN n nb hi s v) := fun h9 => h1 ((nI_ltI (a := lhN n nb) (b := hhN n nb hi s v) (by omega) (by omega)).mpr h9)
              refine wp_go (f' := (253, [.ref 28, .int (nI (lhN n nb)), .int (nI s), .int (nI k), .int (nI v), .int (nI 0), .int (nI (hhN n nb hi s v)), .int (nI (s ||| 2 ^ v)), .int (nI (hangN n nb v (s ||| 2 ^ v))), .int (nI n)], [.ref 28, .ref 34], MW (upA (upA (upA (upA (upA A 33 (forN (kpS (hangN n nb v (s ||| 2 ^ v)) (nI (hhN n nb hi s v))) n (f37, f33)).2) 34 (beP n nb (hiU n nb hi s v) (s ||| 2 ^ v) f34).2) 35 (joA n nb (s ||| 2 ^ v) f35)) 37 (forN (kpS (hangN n nb v (s ||| 2 ^ v)) (nI (hhN n nb hi s v))) n (f37, f33)).1) 32 row) B F sw, 0, 0)) 3 rfl ?_
              refine wp_call rfl rfl rfl (ev_up (ev_all (A := (upA (upA (upA (upA (upA A 33 (forN (kpS (hangN n nb v (s ||| 2 ^ v)) (nI (hhN n nb hi s v))) n (f37, f33)).2) 34 (beP n nb (hiU n nb hi s v) (s ||| 2 ^ v) f34).2) 35 (joA n nb (s ||| 2 ^ v) f35)) 37 (forN (kpS (hangN n nb v (s ||| 2 ^ v)) (nI (hhN n nb hi s v))) n (f37, f33)).1) 32 row)) hM) (by decide)) ?_
              refine wp_eq (f' := (256, [.ref 28, .int (nI (lhN n nb)), .int (nI s), .int (nI k), .int (nI v), .int (nI 0), .int (nI (hhN n nb hi s v)), .int (nI (s ||| 2 ^ v)), .int (nI (hangN n nb v (s ||| 2 ^ v))), .int (nI n)], [.int (nI (2 ^ n - 1)), .ref 34], MW (upA (upA (upA (upA (upA A 33 (forN (kpS (hangN n nb v (s ||| 2 ^ v)) (nI (hhN n nb hi s v))) n (f37, f33)).2) 34 (beP n nb (hiU n nb hi s v) (s ||| 2 ^ v) f34).2) 35 (joA n nb (s ||| 2 ^ v) f35)) 37 (forN (kpS (hangN n nb v (s ||| 2 ^ v)) (nI (hhN n nb hi s v))) n (f37, f33)).1) 32 row) B F sw, 0, 0)) rfl ?_
              refine wp_go (f' := (261, [.ref 28, .int (nI (lhN n nb)), .int (nI s), .int (nI k), .int (nI v), .int (nI 0), .int (nI (hhN n nb hi s v)), .int (nI (s ||| 2 ^ v)), .int (nI (hangN n nb v (s ||| 2 ^ v))), .int (nI n)], [.int ((nI (2 ^ n - 1)) &&& ((nI (s ||| 2 ^ v)) ^^^ (-1))), .ref 34], MW (upA (upA (upA (upA (upA A 33 (forN (kpS (hangN n nb v (s ||| 2 ^ v)) (nI (hhN n nb hi s v))) n (f37, f33)).2) 34 (beP n nb (hiU n nb hi s v) (s ||| 2 ^ v) f34).2) 35 (joA n nb (s ||| 2 ^ v) f35)) 37 (forN (kpS (hangN n nb v (s ||| 2 ^ v)) (nI (hhN n nb hi s v))) n (f37, f33)).1) 32 row) B F sw, 0, 0)) 4 rfl ?_
              rw [bx_sd (by omega)]
              refine wp_iald rfl rfl (by omega) (by decide) ?_
              refine wp_eq (f' := (262, [.ref 28, .int (nI (lhN n nb)), .int (nI s), .int (nI k), .int (nI v), .int (nI 0), .int (nI (hhN n nb hi s v)), .int (nI (s ||| 2 ^ v)), .int (nI (hangN n nb v (s ||| 2 ^ v))), .int (nI n)], [.int ((beP n nb (hiU n nb hi s v) (s ||| 2 ^ v) f34).2 (sd (2 ^ n - 1) (s ||| 2 ^ v)))], MW (upA (upA (upA (upA (upA A 33 (forN (kpS (hangN n nb v (s ||| 2 ^ v)) (nI (hhN n nb hi s v))) n (f37, f33)).2) 34 (beP n nb (hiU n nb hi s v) (s ||| 2 ^ v) f34).2) 35 (joA n nb (s ||| 2 ^ v) f35)) 37 (forN (kpS (hangN n nb v (s ||| 2 ^ v)) (nI (hhN n nb hi s v))) n (f37, f33)).1) 32 row) B F sw, 0, 0)) rfl ?_
              rw [hbe.1]
              refine wp_go (f' := ((if (nI (lhN n nb)) < (nI (beT n nb (hiU n nb hi s v) (s ||| 2 ^ v) (sd (2 ^ n - 1) (s ||| 2 ^ v)))) then 270 else 266), [.ref 28, .int (nI (lhN n nb)), .int (nI s), .int (nI k), .int (nI v), .int (nI 0), .int (nI (hhN n nb hi s v)), .int (nI (s ||| 2 ^ v)), .int (nI (hangN n nb v (s ||| 2 ^ v))), .int (nI n)], [], MW (upA (upA (upA (upA (upA A 33 (forN (kpS (hangN n nb v (s ||| 2 ^ v)) (nI (hhN n nb hi s v))) n (f37, f33)).2) 34 (beP n nb (hiU n nb hi s v) (s ||| 2 ^ v) f34).2) 35 (joA n nb (s ||| 2 ^ v) f35)) 37 (forN (kpS (hangN n nb v (s ||| 2 ^ v)) (nI (hhN n nb hi s v))) n (f37, f33)).1) 32 row) B F sw, 0, 0)) 2 rfl ?_
              refine wp_ite (fun h2 => ?_) (fun h2 => ?_)
              · have h2 : lhN n nb < beT n nb (hiU n nb hi s v) (s ||| 2 ^ v) (sd (2 ^ n - 1) (s ||| 2 ^ v)) := (nI_ltI (a := lhN n nb) (b := beT n nb (hiU n nb hi s v) (s ||| 2 ^ v) (sd (2 ^ n - 1) (s ||| 2 ^ v))) (by omega) (by omega)).mp h2
                refine wp_go (f' := ((if (nI 0) = 0 then 292 else 278), [.ref 28, .int (nI (lhN n nb)), .int (nI s), .int (nI k), .int (nI v), .int (nI 0), .int (nI (hhN n nb hi s v)), .int (nI (s ||| 2 ^ v)), .int (nI (hangN n nb v (s ||| 2 ^ v))), .int (nI n)], [], MW (upA (upA (upA (upA (upA A 33 (forN (kpS (hangN n nb v (s ||| 2 ^ v)) (nI (hhN n nb hi s v))) n (f37, f33)).2) 34 (beP n nb (hiU n nb hi s v) (s ||| 2 ^ v) f34).2) 35 (joA n nb (s ||| 2 ^ v) f35)) 37 (forN (kpS (hangN n nb v (s ||| 2 ^ v)) (nI (hhN n nb hi s v))) n (f37, f33)).1) 32 row) B F sw, 0, 0)) 4 rfl ?_
                refine wp_ite (fun _ => ?_) (fun h9 => absurd rfl h9)
                refine wp_go (f' := (295, [.ref 28, .int (nI (lhN n nb)), .int (nI s), .int (nI k), .int (nI v), .int (nI 0), .int (nI (hhN n nb hi s v)), .int (nI (s ||| 2 ^ v)), .int (nI (hangN n nb v (s ||| 2 ^ v))), .int (nI 0)], [], MW (upA (upA (upA (upA (upA A 33 (forN (kpS (hangN n nb v (s ||| 2 ^ v)) (nI (hhN n nb hi s v))) n (f37, f33)).2) 34 (beP n nb (hiU n nb hi s v) (s ||| 2 ^ v) f34).2) 35 (joA n nb (s ||| 2 ^ v) f35)) 37 (forN (kpS (hangN n nb v (s ||| 2 ^ v)) (nI (hhN n nb hi s v))) n (f37, f33)).1) 32 row) B F sw, 0, 0)) 2 rfl ?_
                exact hback
              · have h2 : ¬ (lhN n nb < beT n nb (hiU n nb hi s v) (s ||| 2 ^ v) (sd (2 ^ n - 1) (s ||| 2 ^ v))) := fun h9 => h2 ((nI_ltI (a := lhN n nb) (b := beT n nb (hiU n nb hi s v) (s ||| 2 ^ v) (sd (2 ^ n - 1) (s ||| 2 ^ v))) (by omega) (by omega)).mpr h9)
                exact absurd ⟨by omega, by omega⟩ hok2
      obtain ⟨g33, g34, g35, g37, hW⟩ := hin 0 (Nat.zero_le _) f33 f34 f35 f37 (fun j hj => (h33 j hj).1) e6 e7 e8 e9
      refine ⟨g33, g34, g35, g37, ?_⟩
      refine wp_go (f' := (45, [.ref 28, .int (nI (lhN n nb)), .int (nI s), .int (nI k), e4, e5, e6, e7, e8, e9], [.int (F 6), .int (nI k)], MW (upA (upA (upA (upA (upA A 33 f33) 34 f34) 35 f35) 37 f37) 32 row) B F sw, 0, 0)) 3 rfl ?_
      rw [hM.2.1]
      refine wp_go (f' := ((if (nI n) ≤ (nI k) then 336 else 48), [.ref 28, .int (nI (lhN n nb)), .int (nI s), .int (nI k), e4, e5, e6, e7, e8, e9], [], MW (upA (upA (upA (upA (upA A 33 f33) 34 f34) 35 f35) 37 f37) 32 row) B F sw, 0, 0)) 1 rfl ?_
      refine wp_ite (fun h9 => absurd h9 (nI_ge hk (by omega))) (fun _ => ?_)
      refine wp_go (f' := ((if ¬ (nI 0) = 0 then 330 else 59), [.ref 28, .int (nI (lhN n nb)), .int (nI s), .int (nI k), .int (nI 0), .int (nI 0), e6, e7, e8, e9], [], MW (upA (upA (upA (upA (upA A 33 f33) 34 f34) 35 f35) 37 f37) 32 row) B F sw, 0, 0)) 6 rfl ?_
      refine wp_ite (fun h9 => absurd h9 (fun h8 => h8 rfl)) (fun _ => ?_)
      exact hW
    · intro hqk hq1 f33 f34 f35 f37 h33 e4 e5 e6 e7 e8 e9
      refine ⟨f33, f34, f35, f37, ?_⟩
      refine wp_go (f' := (45, [.ref 28, .int (nI (lhN n nb)), .int (nI (rhyN n nb (A 32) n).1), .int (nI n), e4, e5, e6, e7, e8, e9], [.int (F 6), .int (nI n)], MW (upA (upA (upA (upA (upA A 33 f33) 34 f34) 35 f35) 37 f37) 32 (rhyN n nb (A 32) n).2.2) B F sw, 0, 0)) 3 rfl ?_
      rw [hM.2.1]
      refine wp_go (f' := ((if (nI n) ≤ (nI n) then 336 else 48), [.ref 28, .int (nI (lhN n nb)), .int (nI (rhyN n nb (A 32) n).1), .int (nI n), e4, e5, e6, e7, e8, e9], [], MW (upA (upA (upA (upA (upA A 33 f33) 34 f34) 35 f35) 37 f37) 32 (rhyN n nb (A 32) n).2.2) B F sw, 0, 0)) 1 rfl ?_
      refine wp_ite (fun _ => ?_) (fun h9 => absurd (nI_le (Nat.le_refl _) (by omega)) h9)
      refine wp_go (f' := (337, [.ref 28, .int (nI (lhN n nb)), .int (nI (rhyN n nb (A 32) n).1), .int (nI n), e4, e5, e6, e7, e8, e9], [.int (nI (lhN n nb))], MW (upA (upA (upA (upA (upA A 33 f33) 34 f34) 35 f35) 37 f37) 32 (rhyN n nb (A 32) n).2.2) B F sw, 0, 0)) 1 rfl ?_
      exact wp_iret rfl
  have hc33 : ∀ j, j < 10 → (forN (fun k f => upd f k (nI 0)) 10 (A 33)) j = nI 0 := by
    intro j hj
    have h := forN_inv (f := fun k (f : Nat → Int32) => upd f k (nI 0)) (n := 10) (a := A 33) (I := fun k (f : Nat → Int32) => j < k → f j = nI 0) (fun h => absurd h (Nat.not_lt_zero _)) (fun k f hk hf h => ?_) 10 (Nat.le_refl _)
    · exact h hj
    · by_cases e : j = k
      · rw [e, pk_us]
      · rw [pk_un e]; exact hf (by omega)
  obtain ⟨g33, g34, g35, g37, hW⟩ := hout (forN (fun k f => upd f k (nI 0)) 10 (A 33)) (beP n nb (fun _ => 0) 0 (A 34)).2 (joA n nb 0 (A 35)) (A 37) hc33 (.retAddr 0) (.retAddr 0) (.retAddr 0) (.retAddr 0) (.retAddr 0) (.retAddr 0)
  refine ⟨g33, g34, g35, g37, ?_⟩
  refine ev_of_wp rfl rfl rfl ?_
  have hb0 := be_ok (nb := nb) (hi := fun _ => 0) (a := 0) (g := A 34) hn (by omega) (u := 2 ^ n - 1) (by omega) (Nat.and_zero _)
  refine wp_go (f' := (2, [.ref 28, .int (nI 0), .retAddr 0, .retAddr 0, .retAddr 0, .retAddr 0, .retAddr 0, .retAddr 0, .retAddr 0, .retAddr 0], [], MW A B F sw, 0, 0)) 2 rfl ?_
  refine wp_eq (f' := (2, [.ref 28, .int (nI 0), .retAddr 0, .retAddr 0, .retAddr 0, .retAddr 0, .retAddr 0, .retAddr 0, .retAddr 0, .retAddr 0], [], MW (upA A 33 (A 33)) B F sw, 0, 0)) rfl ?_
  refine for_ind (P := fun (k : Nat) (f : Nat → Int32) => mv_Wp xs Ls 3 6 false (some .int) mv_c111 (2, [.ref 28, .int (nI k), .retAddr 0, .retAddr 0, .retAddr 0, .retAddr 0, .retAddr 0, .retAddr 0, .retAddr 0, .retAddr 0], [], MW (upA A 33 f) B F sw, 0, 0) (some (.int (nI (lhN n nb))), MW (upA (upA (upA (upA (upA A 33 g33) 34 g34) 35 g35) 37 g37) 32 (rhyN n nb (A 32) n).2.2) B F sw, 0, 0)) (f := fun k f => upd f k (nI 0)) (n := 10) ?_ 10 (A 33) (Nat.le_refl _) ?_
  · intro k f hk ih
    refine wp_go (f' := ((if (nI 10) ≤ (nI k) then 21 else 8), [.ref 28, .int (nI k), .retAddr 0, .retAddr 0, .retAddr 0, .retAddr 0, .retAddr 0, .retAddr 0, .retAddr 0, .retAddr 0], [], MW (upA A 33 f) B F sw, 0, 0)) 3 rfl ?_
    refine wp_ite (fun h9 => absurd h9 (nI_ge hk (by omega))) (fun _ => ?_)
    refine wp_go (f' := (14, [.ref 28, .int (nI k), .retAddr 0, .retAddr 0, .retAddr 0, .retAddr 0, .retAddr 0, .retAddr 0, .retAddr 0, .retAddr 0], [.int (nI 0), .int (nI k), .ref 33], MW (upA A 33 f) B F sw, 0, 0)) 4 rfl ?_
    refine wp_iast rfl rfl (by omega) (by decide) ?_
    refine wp_eq (f' := (15, [.ref 28, .int (nI k), .retAddr 0, .retAddr 0, .retAddr 0, .retAddr 0, .retAddr 0, .retAddr 0, .retAddr 0, .retAddr 0], [], MW (upA A 33 (upd f k (nI 0))) B F sw, 0, 0)) rfl ?_
    refine wp_go (f' := (18, [.ref 28, .int ((nI k) + 1), .retAddr 0, .retAddr 0, .retAddr 0, .retAddr 0, .retAddr 0, .retAddr 0, .retAddr 0, .retAddr 0], [], MW (upA A 33 (upd f k (nI 0))) B F sw, 0, 0)) 1 rfl ?_
    rw [nI_1]
    refine wp_go (f' := (2, [.ref 28, .int (nI (k + 1)), .retAddr 0, .retAddr 0, .retAddr 0, .retAddr 0, .retAddr 0, .retAddr 0, .retAddr 0, .retAddr 0], [], MW (upA A 33 (upd f k (nI 0))) B F sw, 0, 0)) 1 rfl ?_
    exact ih
  · skip
    refine wp_go (f' := ((if (nI 10) ≤ (nI 10) then 21 else 8), [.ref 28, .int (nI 10), .retAddr 0, .retAddr 0, .retAddr 0, .retAddr 0, .retAddr 0, .retAddr 0, .retAddr 0, .retAddr 0], [], MW (upA A 33 (forN (fun k f => upd f k (nI 0)) 10 (A 33))) B F sw, 0, 0)) 3 rfl ?_
    refine wp_ite (fun _ => ?_) (fun h9 => absurd (nI_le (Nat.le_refl _) (by omega)) h9)
    refine wp_go (f' := (23, [.ref 28, .int (nI 10), .retAddr 0, .retAddr 0, .retAddr 0, .retAddr 0, .retAddr 0, .retAddr 0, .retAddr 0, .retAddr 0], [.int (nI 0), .ref 28], MW (upA A 33 (forN (fun k f => upd f k (nI 0)) 10 (A 33))) B F sw, 0, 0)) 2 rfl ?_
    refine wp_call rfl rfl rfl (ev_up (ev_tellHigh (A := upA A 33 (forN (fun k f => upd f k (nI 0)) 10 (A 33))) hM (hi := fun _ => 0) (fun j hj => ⟨hc33 j hj, by omega⟩) (a := 0) (by omega)) (by decide)) ?_
    refine wp_eq (f' := (26, [.ref 28, .int (nI 10), .retAddr 0, .retAddr 0, .retAddr 0, .retAddr 0, .retAddr 0, .retAddr 0, .retAddr 0, .retAddr 0], [], MW (upA (upA (upA A 33 (forN (fun k f => upd f k (nI 0)) 10 (A 33))) 34 (beP n nb (fun _ => 0) 0 (A 34)).2) 35 (joA n nb 0 (A 35))) B F sw, 0, 0)) rfl ?_
    refine wp_go (f' := (31, [.ref 28, .int (nI 10), .retAddr 0, .retAddr 0, .retAddr 0, .retAddr 0, .retAddr 0, .retAddr 0, .retAddr 0, .retAddr 0], [.ref 28, .ref 34], MW (upA (upA (upA A 33 (forN (fun k f => upd f k (nI 0)) 10 (A 33))) 34 (beP n nb (fun _ => 0) 0 (A 34)).2) 35 (joA n nb 0 (A 35))) B F sw, 0, 0)) 3 rfl ?_
    refine wp_call rfl rfl rfl (ev_up (ev_all (A := (upA (upA (upA A 33 (forN (fun k f => upd f k (nI 0)) 10 (A 33))) 34 (beP n nb (fun _ => 0) 0 (A 34)).2) 35 (joA n nb 0 (A 35)))) hM) (by decide)) ?_
    refine wp_eq (f' := (34, [.ref 28, .int (nI 10), .retAddr 0, .retAddr 0, .retAddr 0, .retAddr 0, .retAddr 0, .retAddr 0, .retAddr 0, .retAddr 0], [.int (nI (2 ^ n - 1)), .ref 34], MW (upA (upA (upA A 33 (forN (fun k f => upd f k (nI 0)) 10 (A 33))) 34 (beP n nb (fun _ => 0) 0 (A 34)).2) 35 (joA n nb 0 (A 35))) B F sw, 0, 0)) rfl ?_
    refine wp_iald rfl rfl (by omega) (by decide) ?_
    refine wp_eq (f' := (35, [.ref 28, .int (nI 10), .retAddr 0, .retAddr 0, .retAddr 0, .retAddr 0, .retAddr 0, .retAddr 0, .retAddr 0, .retAddr 0], [.int ((beP n nb (fun _ => 0) 0 (A 34)).2 (2 ^ n - 1))], MW (upA (upA (upA A 33 (forN (fun k f => upd f k (nI 0)) 10 (A 33))) 34 (beP n nb (fun _ => 0) 0 (A 34)).2) 35 (joA n nb 0 (A 35))) B F sw, 0, 0)) rfl ?_
    rw [hb0.1]
    refine wp_go (f' := (40, [.ref 28, .int (nI (lhN n nb)), .int (nI 0), .int (nI 0), .retAddr 0, .retAddr 0, .retAddr 0, .retAddr 0, .retAddr 0, .retAddr 0], [], MW (upA (upA (upA A 33 (forN (fun k f => upd f k (nI 0)) 10 (A 33))) 34 (beP n nb (fun _ => 0) 0 (A 34)).2) 35 (joA n nb 0 (A 35))) B F sw, 0, 0)) 5 rfl ?_
    exact hW
end MM
