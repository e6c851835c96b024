/-- the class's own cost of v behind s -/
def ownC (n : Nat) (nb : Nat → Nat) (ed kind s v : Nat) : Nat := match kind with
  | 0 => pop (pastN nb s v)
  | 1 => pop ((s ||| 2 ^ v) &&& rcN nb (sd (2 ^ n - 1) (s ||| 2 ^ v)))
  | 2 => if pop ((s ||| 2 ^ v) &&& rcN nb (sd (2 ^ n - 1) (s ||| 2 ^ v))) < pop (sd (2 ^ n - 1) (s ||| 2 ^ v) &&& rcN nb (s ||| 2 ^ v)) then pop (sd (2 ^ n - 1) (s ||| 2 ^ v) &&& rcN nb (s ||| 2 ^ v)) else pop ((s ||| 2 ^ v) &&& rcN nb (sd (2 ^ n - 1) (s ||| 2 ^ v)))
  | 3 => ed - inN nb (s ||| 2 ^ v) - inN nb (sd (2 ^ n - 1) (s ||| 2 ^ v))
  | _ => pop (sd (pastN nb s v) (nb v))
/-- no more edges lie on both sides of a cut than there are -/
def CEd (n : Nat) (nb : Nat → Nat) (ed : Nat) : Prop := ed ≤ 20 ∧ ∀ w, w < 2 ^ n → inN nb w + inN nb (sd (2 ^ n - 1) w) ≤ ed
/-- one more vertex behind s: the least so far -/
def bgS (c : Nat → Nat → Nat) (kind s : Nat) (T : Nat → Nat) : Nat → Nat → Nat := fun v m => if s.testBit v then m else if comb kind (c s v) (T (s ||| 2 ^ v)) < m then comb kind (c s v) (T (s ||| 2 ^ v)) else m
def bgF (c : Nat → Nat → Nat) (n : Nat) (kind : Nat) : Nat → Nat → Nat
  | 0, _ => 0
  | f + 1, s => forN (bgS c kind s (bgF c n kind f)) n (if s = 2 ^ n - 1 then 0 else 1000)
/-- the least cost of what comes behind s, by any cost -/
def bgN (c : Nat → Nat → Nat) (n : Nat) (kind s : Nat) : Nat := bgF c n kind (2 ^ n) s
theorem bgF_fuel {n : Nat} {c : Nat → Nat → Nat} {kind : Nat} : ∀ (f g s : Nat), s < 2 ^ n → 2 ^ n ≤ s + f → 2 ^ n ≤ s + g → bgF c n kind f s = bgF c n kind g s
  | 0, g, s, hs, h1, h2 => by omega
  | f + 1, 0, s, hs, h1, h2 => by omega
  | f + 1, g + 1, s, hs, h1, h2 => by
    simp only [bgF]
    refine forN_congr (fun v hv m => ?_) _ n (Nat.le_refl _)
    unfold bgS
    cases hb : s.testBit v with
    | true => rfl
    | false =>
      have h3 := or_gt hb
      have h4 := or_ltn hs hv
      rw [bgF_fuel f g (s ||| 2 ^ v) h4 (by omega) (by omega)]
theorem bgN_eq {n : Nat} {c : Nat → Nat → Nat} {kind s : Nat} (hs : s < 2 ^ n) : bgN c n kind s = forN (bgS c kind s (bgN c n kind)) n (if s = 2 ^ n - 1 then 0 else 1000) := by
  have hp1 : 1 ≤ 2 ^ n := Nat.one_le_two_pow
  obtain ⟨f, hf⟩ : ∃ f, 2 ^ n = f + 1 := ⟨2 ^ n - 1, by omega⟩
  have e : bgN c n kind s = bgF c n kind (f + 1) s := by unfold bgN; rw [hf]
  rw [e]
  simp only [bgF]
  refine forN_congr (fun v hv m => ?_) _ n (Nat.le_refl _)
  unfold bgS
  cases hb : s.testBit v with
  | true => rfl
  | false =>
    have h3 := or_gt hb
    have h4 := or_ltn hs hv
    unfold bgN
    rw [bgF_fuel f (2 ^ n) (s ||| 2 ^ v) h4 (by omega) (by omega)]
theorem bgN_le {n : Nat} {c : Nat → Nat → Nat} {kind s : Nat} (hs : s < 2 ^ n) : bgN c n kind s ≤ 1000 := by
  rw [bgN_eq hs]
  refine forN_inv (I := fun _ (m : Nat) => m ≤ 1000) (by split <;> omega) (fun k m hk hm => ?_) n (Nat.le_refl _)
  unfold bgS
  split
  · exact hm
  · split <;> omega
theorem bgN_all {c : Nat → Nat → Nat} {n kind : Nat} : bgN c n kind (2 ^ n - 1) = 0 := by
  have hp1 : 1 ≤ 2 ^ n := Nat.one_le_two_pow
  rw [bgN_eq (by omega), if_pos rfl]
  refine forN_inv (I := fun _ (m : Nat) => m = 0) rfl (fun k m hk hm => ?_) n (Nat.le_refl _)
  unfold bgS
  have e : (2 ^ n - 1).testBit k = true := by rw [all_bit]; simp [hk]
  simp [e, hm]
theorem bbF_bg {n : Nat} {nb : Nat → Nat} {kind : Nat} : ∀ f s, bbF n nb kind f s = bgF (costN n nb kind) n kind f s
  | 0, s => rfl
  | f + 1, s => by
    have : bbF n nb kind f = bgF (costN n nb kind) n kind f := funext (fun t => bbF_bg f t)
    simp only [bbF, bgF]
    rw [this]
    rfl
theorem bgF_congr {c e : Nat → Nat → Nat} {n kind : Nat} (h : ∀ s v, s < 2 ^ n → v < n → s.testBit v = false → c s v = e s v) : ∀ f s, s < 2 ^ n → bgF c n kind f s = bgF e n kind f s
  | 0, s, hs => rfl
  | f + 1, s, hs => by
    simp only [bgF]
    refine forN_congr (fun v hv m => ?_) _ n (Nat.le_refl _)
    unfold bgS
    cases hb : s.testBit v with
    | true => rfl
    | false => rw [bgF_congr h f _ (or_ltn hs hv), h s v hs hv hb]
/-- the class's own cost is the reference's -/
def CQ (n : Nat) (nb : Nat → Nat) (ed kind : Nat) : Prop := ∀ s v, s < 2 ^ n → v < n → s.testBit v = false → ownC n nb ed kind s v = costN n nb kind s v
theorem bg_bb {n : Nat} {nb : Nat → Nat} {ed kind s : Nat} (hq : CQ n nb ed kind) (hs : s < 2 ^ n) : bgN (ownC n nb ed kind) n kind s = bbN n nb kind s := by
  unfold bgN bbN
  rw [bgF_congr hq _ s hs, bbF_bg]
theorem past_lt {nb : Nat → Nat} {s v : Nat} (hb : ∀ v, v < 10 → nb v < 1024) (hv : v < 10) (ht : tchN nb s v < 1024) : pastN nb s v < 1024 := sd_lt (sd_lt (or_lt (hb v hv) (rc_lt hb _ ht)))
/-- the class's table of least costs -/
def bgA (c : Nat → Nat → Nat) (n kind : Nat) (g : Nat → Int32) : Nat → Int32 := fun j => if j < 2 ^ n then nI (bgN c n kind j) else g j
theorem bgA_at {c : Nat → Nat → Nat} {n kind : Nat} {g : Nat → Int32} {j : Nat} (h : j < 2 ^ n) : bgA c n kind g j = nI (bgN c n kind j) := if_pos h
theorem ownC_le {n : Nat} {nb : Nat → Nat} {ed kind s v : Nat} (hn : n ≤ 10) (hb : ∀ v, v < 10 → nb v < 1024) (hQ : CEd n nb ed) (hs : s < 2 ^ n) (hv : v < n) (hk : kind ≤ 4) : ownC n nb ed kind s v ≤ 20 := by
  have hp := pow10 hn
  have hw := or_ltn hs hv
  have htl := tch_lt (nb := nb) (v := v) hn hs
  have hpl := past_lt (s := s) hb (v := v) (by omega) (by omega)
  have hsl : sd (2 ^ n - 1) (s ||| 2 ^ v) < 2 ^ n := by have h9 := sd_le (a := 2 ^ n - 1) (b := s ||| 2 ^ v); omega
  have h1 := pop_le (s := (s ||| 2 ^ v) &&& rcN nb (sd (2 ^ n - 1) (s ||| 2 ^ v))) (and_lt (by omega))
  have h2 := pop_le (s := sd (2 ^ n - 1) (s ||| 2 ^ v) &&& rcN nb (s ||| 2 ^ v)) (and_lt (by omega))
  have h3 := pop_le hpl
  have h4 := pop_le (sd_lt (b := nb v) hpl)
  have h5 := hQ.1
  match kind, hk with
  | 0, _ => show pop _ ≤ 20; omega
  | 1, _ => show pop _ ≤ 20; omega
  | 2, _ => show (if _ then _ else _) ≤ 20; split <;> omega
  | 3, _ => show ed - _ - _ ≤ 20; omega
  | 4, _ => show pop _ ≤ 20; omega
section CC
variable {xs : Nat → Int32} {Ls : Nat} {A : Nat → Nat → Int32} {B : Nat → Nat → Int64} {F : Nat → Int32} {sw : Bool} {n : Nat} {nb : Nat → Nat}
theorem ev_own0 (hC : CI A F n nb) (hR : RI A n nb) {ed : Nat} (hE : F 1 = nI ed) (hQ : CEd n nb ed) {s v : Nat} (hs : s < 2 ^ n) (hv : v < n) : mv_Ev xs Ls 3 42 [.ref 7, .int (nI 0), .int (nI s), .int (nI v)] (MW A B F sw) (some (.int (nI (ownC n nb ed 0 s v))), MW A B F sw, 0, 0) := by
  refine ev_of_wp rfl rfl rfl ?_
  have hn := hC.1
  have hp := pow10 hn
  have hp1 : 1 ≤ 2 ^ n := Nat.one_le_two_pow
  have hal := all_lt hn
  have hw := or_ltn hs hv
  have htl := tch_lt (nb := nb) (v := v) hn hs
  have hpl := past_lt (s := s) hC.2.2.2 (v := v) (by omega) (by omega)
  have hsl : sd (2 ^ n - 1) (s ||| 2 ^ v) < 2 ^ n := by have h9 := sd_le (a := 2 ^ n - 1) (b := s ||| 2 ^ v); omega
  have hq1 := hQ.1
  have hq2 := hQ.2 (s ||| 2 ^ v) hw
  have hx1 : (s ||| 2 ^ v) &&& rcN nb (sd (2 ^ n - 1) (s ||| 2 ^ v)) < 1024 := and_lt (by omega)
  have hx2 : sd (2 ^ n - 1) (s ||| 2 ^ v) &&& rcN nb (s ||| 2 ^ v) < 1024 := and_lt (by omega)
  have hx3 : sd (pastN nb s v) (nb v) < 1024 := sd_lt hpl
  show mv_Wp _ _ _ _ _ _ _ _ (some (.int (nI (pop (pastN nb s v)))), _, _, _)
  refine wp_go (f' := (4, [.ref 7, .int (nI 0), .int (nI s), .int (nI v), .retAddr 0, .retAddr 0], [.int ((nI 1) <<< ((nI v) &&& 31)), .int (nI s)], MW A B F sw, 0, 0)) 4 rfl ?_
  rw [bx_one (by omega)]
  refine wp_go (f' := (5, [.ref 7, .int (nI 0), .int (nI s), .int (nI v), .retAddr 0, .retAddr 0], [.int ((nI s) ||| (nI (2 ^ v)))], MW A B F sw, 0, 0)) 1 rfl ?_
  rw [bx_or]
  refine wp_go (f' := (11, [.ref 7, .int (nI 0), .int (nI s), .int (nI v), .int (nI (s ||| (2 ^ v))), .retAddr 0], [.ref 1], MW A B F sw, 0, 0)) 3 rfl ?_
  refine wp_call rfl rfl rfl (ev_up (ev_gAll hC) (by decide)) ?_
  refine wp_eq (f' := (14, [.ref 7, .int (nI 0), .int (nI s), .int (nI v), .int (nI (s ||| (2 ^ v))), .retAddr 0], [.int (nI (2 ^ n - 1))], MW A B F sw, 0, 0)) rfl ?_
  refine wp_go (f' := (19, [.ref 7, .int (nI 0), .int (nI s), .int (nI v), .int (nI (s ||| (2 ^ v))), .retAddr 0], [.int ((nI (2 ^ n - 1)) &&& ((nI (s ||| (2 ^ v))) ^^^ (-1)))], MW A B F sw, 0, 0)) 4 rfl ?_
  rw [bx_sd (by omega)]
  refine wp_go (f' := (58, [.ref 7, .int (nI 0), .int (nI s), .int (nI v), .int (nI (s ||| (2 ^ v))), .int (nI (sd (2 ^ n - 1) (s ||| (2 ^ v))))], [.int (nI v), .int (nI s), .ref 1], MW A B F sw, 0, 0)) 7 rfl ?_
  refine wp_call rfl rfl rfl (ev_up (ev_gSees hC hR (s := s) (v := v) (by omega) (by omega)) (by decide)) ?_
  refine wp_eq (f' := (61, [.ref 7, .int (nI 0), .int (nI s), .int (nI v), .int (nI (s ||| (2 ^ v))), .int (nI (sd (2 ^ n - 1) (s ||| (2 ^ v))))], [.int (nI (pastN nb s v))], MW A B F sw, 0, 0)) rfl ?_
  refine wp_call rfl rfl rfl (ev_up (ev_bitCount (s := pastN nb s v) (by omega) _) (by decide)) ?_
  refine wp_eq (f' := (64, [.ref 7, .int (nI 0), .int (nI s), .int (nI v), .int (nI (s ||| (2 ^ v))), .int (nI (sd (2 ^ n - 1) (s ||| (2 ^ v))))], [.int (nI (pop (pastN nb s v)))], MW A B F sw, 0, 0)) rfl ?_
  have hpp := pop_le (s := pastN nb s v) (by omega)
  exact wp_iret rfl
theorem ev_own1 (hC : CI A F n nb) (hR : RI A n nb) {ed : Nat} (hE : F 1 = nI ed) (hQ : CEd n nb ed) {s v : Nat} (hs : s < 2 ^ n) (hv : v < n) : mv_Ev xs Ls 3 42 [.ref 7, .int (nI 1), .int (nI s), .int (nI v)] (MW A B F sw) (some (.int (nI (ownC n nb ed 1 s v))), MW A B F sw, 0, 0) := by
  refine ev_of_wp rfl rfl rfl ?_
  have hn := hC.1
  have hp := pow10 hn
  have hp1 : 1 ≤ 2 ^ n := Nat.one_le_two_pow
  have hal := all_lt hn
  have hw := or_ltn hs hv
  have htl := tch_lt (nb := nb) (v := v) hn hs
  have hpl := past_lt (s := s) hC.2.2.2 (v := v) (by omega) (by omega)
  have hsl : sd (2 ^ n - 1) (s ||| 2 ^ v) < 2 ^ n := by have h9 := sd_le (a := 2 ^ n - 1) (b := s ||| 2 ^ v); omega
  have hq1 := hQ.1
  have hq2 := hQ.2 (s ||| 2 ^ v) hw
  have hx1 : (s ||| 2 ^ v) &&& rcN nb (sd (2 ^ n - 1) (s ||| 2 ^ v)) < 1024 := and_lt (by omega)
  have hx2 : sd (2 ^ n - 1) (s ||| 2 ^ v) &&& rcN nb (s ||| 2 ^ v) < 1024 := and_lt (by omega)
  have hx3 : sd (pastN nb s v) (nb v) < 1024 := sd_lt hpl
  show mv_Wp _ _ _ _ _ _ _ _ (some (.int (nI (pop ((s ||| 2 ^ v) &&& rcN nb (sd (2 ^ n - 1) (s ||| 2 ^ v)))))), _, _, _)
  refine wp_go (f' := (4, [.ref 7, .int (nI 1), .int (nI s), .int (nI v), .retAddr 0, .retAddr 0], [.int ((nI 1) <<< ((nI v) &&& 31)), .int (nI s)], MW A B F sw, 0, 0)) 4 rfl ?_
  rw [bx_one (by omega)]
  refine wp_go (f' := (5, [.ref 7, .int (nI 1), .int (nI s), .int (nI v), .retAddr 0, .retAddr 0], [.int ((nI s) ||| (nI (2 ^ v)))], MW A B F sw, 0, 0)) 1 rfl ?_
  rw [bx_or]
  refine wp_go (f' := (11, [.ref 7, .int (nI 1), .int (nI s), .int (nI v), .int (nI (s ||| (2 ^ v))), .retAddr 0], [.ref 1], MW A B F sw, 0, 0)) 3 rfl ?_
  refine wp_call rfl rfl rfl (ev_up (ev_gAll hC) (by decide)) ?_
  refine wp_eq (f' := (14, [.ref 7, .int (nI 1), .int (nI s), .int (nI v), .int (nI (s ||| (2 ^ v))), .retAddr 0], [.int (nI (2 ^ n - 1))], MW A B F sw, 0, 0)) rfl ?_
  refine wp_go (f' := (19, [.ref 7, .int (nI 1), .int (nI s), .int (nI v), .int (nI (s ||| (2 ^ v))), .retAddr 0], [.int ((nI (2 ^ n - 1)) &&& ((nI (s ||| (2 ^ v))) ^^^ (-1)))], MW A B F sw, 0, 0)) 4 rfl ?_
  rw [bx_sd (by omega)]
  refine wp_go (f' := (76, [.ref 7, .int (nI 1), .int (nI s), .int (nI v), .int (nI (s ||| (2 ^ v))), .int (nI (sd (2 ^ n - 1) (s ||| (2 ^ v))))], [.int (nI (sd (2 ^ n - 1) (s ||| (2 ^ v)))), .ref 4, .int (nI (s ||| (2 ^ v)))], MW A B F sw, 0, 0)) 8 rfl ?_
  refine wp_iald rfl rfl (by omega) (by decide) ?_
  rw [(hR (sd (2 ^ n - 1) (s ||| (2 ^ v))) (by omega)).1]
  have hrcl := rc_lt hC.2.2.2 (sd (2 ^ n - 1) (s ||| (2 ^ v))) (by omega)
  refine wp_go (f' := (78, [.ref 7, .int (nI 1), .int (nI s), .int (nI v), .int (nI (s ||| (2 ^ v))), .int (nI (sd (2 ^ n - 1) (s ||| (2 ^ v))))], [.int ((nI (s ||| (2 ^ v))) &&& (nI (rcN nb (sd (2 ^ n - 1) (s ||| (2 ^ v))))))], MW A B F sw, 0, 0)) 1 rfl ?_
  rw [bx_and]
  refine wp_call rfl rfl rfl (ev_up (ev_bitCount (s := (s ||| (2 ^ v)) &&& (rcN nb (sd (2 ^ n - 1) (s ||| (2 ^ v))))) (by omega) _) (by decide)) ?_
  refine wp_eq (f' := (81, [.ref 7, .int (nI 1), .int (nI s), .int (nI v), .int (nI (s ||| (2 ^ v))), .int (nI (sd (2 ^ n - 1) (s ||| (2 ^ v))))], [.int (nI (pop ((s ||| (2 ^ v)) &&& (rcN nb (sd (2 ^ n - 1) (s ||| (2 ^ v)))))))], MW A B F sw, 0, 0)) rfl ?_
  have hpp := pop_le (s := (s ||| (2 ^ v)) &&& (rcN nb (sd (2 ^ n - 1) (s ||| (2 ^ v))))) (by omega)
  exact wp_iret rfl
theorem ev_own2 (hC : CI A F n nb) (hR : RI A n nb) {ed : Nat} (hE : F 1 = nI ed) (hQ : CEd n nb ed) {s v : Nat} (hs : s < 2 ^ n) (hv : v < n) : mv_Ev xs Ls 3 42 [.ref 7, .int (nI 2), .int (nI s), .int (nI v)] (MW A B F sw) (some (.int (nI (ownC n nb ed 2 s v))), MW A B F sw, 0, 0) := by
  refine ev_of_wp rfl rfl rfl ?_
  have hn := hC.1
  have hp := pow10 hn
  have hp1 : 1 ≤ 2 ^ n := Nat.one_le_two_pow
  have hal := all_lt hn
  have hw := or_ltn hs hv
  have htl := tch_lt (nb := nb) (v := v) hn hs
  have hpl := past_lt (s := s) hC.2.2.2 (v := v) (by omega) (by omega)
  have hsl : sd (2 ^ n - 1) (s ||| 2 ^ v) < 2 ^ n := by have h9 := sd_le (a := 2 ^ n - 1) (b := s ||| 2 ^ v); omega
  have hq1 := hQ.1
  have hq2 := hQ.2 (s ||| 2 ^ v) hw
  have hx1 : (s ||| 2 ^ v) &&& rcN nb (sd (2 ^ n - 1) (s ||| 2 ^ v)) < 1024 := and_lt (by omega)
  have hx2 : sd (2 ^ n - 1) (s ||| 2 ^ v) &&& rcN nb (s ||| 2 ^ v) < 1024 := and_lt (by omega)
  have hx3 : sd (pastN nb s v) (nb v) < 1024 := sd_lt hpl
  show mv_Wp _ _ _ _ _ _ _ _ (some (.int (nI (if pop ((s ||| 2 ^ v) &&& rcN nb (sd (2 ^ n - 1) (s ||| 2 ^ v))) < pop (sd (2 ^ n - 1) (s ||| 2 ^ v) &&& rcN nb (s ||| 2 ^ v)) then pop (sd (2 ^ n - 1) (s ||| 2 ^ v) &&& rcN nb (s ||| 2 ^ v)) else pop ((s ||| 2 ^ v) &&& rcN nb (sd (2 ^ n - 1) (s ||| 2 ^ v)))))), _, _, _)
  refine wp_go (f' := (4, [.ref 7, .int (nI 2), .int (nI s), .int (nI v), .retAddr 0, .retAddr 0], [.int ((nI 1) <<< ((nI v) &&& 31)), .int (nI s)], MW A B F sw, 0, 0)) 4 rfl ?_
  rw [bx_one (by omega)]
  refine wp_go (f' := (5, [.ref 7, .int (nI 2), .int (nI s), .int (nI v), .retAddr 0, .retAddr 0], [.int ((nI s) ||| (nI (2 ^ v)))], MW A B F sw, 0, 0)) 1 rfl ?_
  rw [bx_or]
  refine wp_go (f' := (11, [.ref 7, .int (nI 2), .int (nI s), .int (nI v), .int (nI (s ||| (2 ^ v))), .retAddr 0], [.ref 1], MW A B F sw, 0, 0)) 3 rfl ?_
  refine wp_call rfl rfl rfl (ev_up (ev_gAll hC) (by decide)) ?_
  refine wp_eq (f' := (14, [.ref 7, .int (nI 2), .int (nI s), .int (nI v), .int (nI (s ||| (2 ^ v))), .retAddr 0], [.int (nI (2 ^ n - 1))], MW A B F sw, 0, 0)) rfl ?_
  refine wp_go (f' := (19, [.ref 7, .int (nI 2), .int (nI s), .int (nI v), .int (nI (s ||| (2 ^ v))), .retAddr 0], [.int ((nI (2 ^ n - 1)) &&& ((nI (s ||| (2 ^ v))) ^^^ (-1)))], MW A B F sw, 0, 0)) 4 rfl ?_
  rw [bx_sd (by omega)]
  refine wp_go (f' := (93, [.ref 7, .int (nI 2), .int (nI s), .int (nI v), .int (nI (s ||| (2 ^ v))), .int (nI (sd (2 ^ n - 1) (s ||| (2 ^ v))))], [.int (nI (sd (2 ^ n - 1) (s ||| (2 ^ v)))), .ref 4, .int (nI (s ||| (2 ^ v)))], MW A B F sw, 0, 0)) 8 rfl ?_
  refine wp_iald rfl rfl (by omega) (by decide) ?_
  rw [(hR (sd (2 ^ n - 1) (s ||| (2 ^ v))) (by omega)).1]
  have hrcl := rc_lt hC.2.2.2 (sd (2 ^ n - 1) (s ||| (2 ^ v))) (by omega)
  refine wp_go (f' := (95, [.ref 7, .int (nI 2), .int (nI s), .int (nI v), .int (nI (s ||| (2 ^ v))), .int (nI (sd (2 ^ n - 1) (s ||| (2 ^ v))))], [.int ((nI (s ||| (2 ^ v))) &&& (nI (rcN nb (sd (2 ^ n - 1) (s ||| (2 ^ v))))))], MW A B F sw, 0, 0)) 1 rfl ?_
  rw [bx_and]
  refine wp_call rfl rfl rfl (ev_up (ev_bitCount (s := (s ||| (2 ^ v)) &&& (rcN nb (sd (2 ^ n - 1) (s ||| (2 ^ v))))) (by omega) _) (by decide)) ?_
  refine wp_eq (f' := (98, [.ref 7, .int (nI 2), .int (nI s), .int (nI v), .int (nI (s ||| (2 ^ v))), .int (nI (sd (2 ^ n - 1) (s ||| (2 ^ v))))], [.int (nI (pop ((s ||| (2 ^ v)) &&& (rcN nb (sd (2 ^ n - 1) (s ||| (2 ^ v)))))))], MW A B F sw, 0, 0)) rfl ?_
  have hpp := pop_le (s := (s ||| (2 ^ v)) &&& (rcN nb (sd (2 ^ n - 1) (s ||| (2 ^ v))))) (by omega)
  refine wp_go (f' := (109, [.ref 7, .int (nI 2), .int (nI s), .int (nI v), .int (nI (s ||| (2 ^ v))), .int (nI (sd (2 ^ n - 1) (s ||| (2 ^ v))))], [.int (nI (s ||| (2 ^ v))), .ref 4, .int (nI (sd (2 ^ n - 1) (s ||| (2 ^ v)))), .int (nI (pop ((s ||| (2 ^ v)) &&& (rcN nb (sd (2 ^ n - 1) (s ||| (2 ^ v)))))))], MW A B F sw, 0, 0)) 5 rfl ?_
  refine wp_iald rfl rfl (by omega) (by decide) ?_
  rw [(hR (s ||| (2 ^ v)) (by omega)).1]
  have hrcl := rc_lt hC.2.2.2 (s ||| (2 ^ v)) (by omega)
  refine wp_go (f' := (111, [.ref 7, .int (nI 2), .int (nI s), .int (nI v), .int (nI (s ||| (2 ^ v))), .int (nI (sd (2 ^ n - 1) (s ||| (2 ^ v))))], [.int ((nI (sd (2 ^ n - 1) (s ||| (2 ^ v)))) &&& (nI (rcN nb (s ||| (2 ^ v))))), .int (nI (pop ((s ||| (2 ^ v)) &&& (rcN nb (sd (2 ^ n - 1) (s ||| (2 ^ v)))))))], MW A B F sw, 0, 0)) 1 rfl ?_
  rw [bx_and]
  refine wp_call rfl rfl rfl (ev_up (ev_bitCount (s := (sd (2 ^ n - 1) (s ||| (2 ^ v))) &&& (rcN nb (s ||| (2 ^ v)))) (by omega) _) (by decide)) ?_
  refine wp_eq (f' := (114, [.ref 7, .int (nI 2), .int (nI s), .int (nI v), .int (nI (s ||| (2 ^ v))), .int (nI (sd (2 ^ n - 1) (s ||| (2 ^ v))))], [.int (nI (pop ((sd (2 ^ n - 1) (s ||| (2 ^ v))) &&& (rcN nb (s ||| (2 ^ v)))))), .int (nI (pop ((s ||| (2 ^ v)) &&& (rcN nb (sd (2 ^ n - 1) (s ||| (2 ^ v)))))))], MW A B F sw, 0, 0)) rfl ?_
  have hpp := pop_le (s := (sd (2 ^ n - 1) (s ||| (2 ^ v))) &&& (rcN nb (s ||| (2 ^ v)))) (by omega)
  refine wp_go (f' := (117, [.ref 7, .int (nI 2), .int (nI s), .int (nI v), .int (nI (s ||| (2 ^ v))), .int (nI (sd (2 ^ n - 1) (s ||| (2 ^ v))))], [.int (if (nI (pop ((s ||| (2 ^ v)) &&& (rcN nb (sd (2 ^ n - 1) (s ||| (2 ^ v))))))) < (nI (pop ((sd (2 ^ n - 1) (s ||| (2 ^ v))) &&& (rcN nb (s ||| (2 ^ v)))))) then nI (pop ((sd (2 ^ n - 1) (s ||| (2 ^ v))) &&& (rcN nb (s ||| (2 ^ v))))) else nI (pop ((s ||| (2 ^ v)) &&& (rcN nb (sd (2 ^ n - 1) (s ||| (2 ^ v)))))))], MW A B F sw, 0, 0)) 1 rfl ?_
  rw [nI_ite (by first | omega | (split <;> omega)) (by first | omega | (split <;> omega))]
  exact wp_iret rfl
theorem ev_own3 (hC : CI A F n nb) (hR : RI A n nb) {ed : Nat} (hE : F 1 = nI ed) (hQ : CEd n nb ed) {s v : Nat} (hs : s < 2 ^ n) (hv : v < n) : mv_Ev xs Ls 3 42 [.ref 7, .int (nI 3), .int (nI s), .int (nI v)] (MW A B F sw) (some (.int (nI (ownC n nb ed 3 s v))), MW A B F sw, 0, 0) := by
  refine ev_of_wp rfl rfl rfl ?_
  have hn := hC.1
  have hp := pow10 hn
  have hp1 : 1 ≤ 2 ^ n := Nat.one_le_two_pow
  have hal := all_lt hn
  have hw := or_ltn hs hv
  have htl := tch_lt (nb := nb) (v := v) hn hs
  have hpl := past_lt (s := s) hC.2.2.2 (v := v) (by omega) (by omega)
  have hsl : sd (2 ^ n - 1) (s ||| 2 ^ v) < 2 ^ n := by have h9 := sd_le (a := 2 ^ n - 1) (b := s ||| 2 ^ v); omega
  have hq1 := hQ.1
  have hq2 := hQ.2 (s ||| 2 ^ v) hw
  have hx1 : (s ||| 2 ^ v) &&& rcN nb (sd (2 ^ n - 1) (s ||| 2 ^ v)) < 1024 := and_lt (by omega)
  have hx2 : sd (2 ^ n - 1) (s ||| 2 ^ v) &&& rcN nb (s ||| 2 ^ v) < 1024 := and_lt (by omega)
  have hx3 : sd (pastN nb s v) (nb v) < 1024 := sd_lt hpl
  show mv_Wp _ _ _ _ _ _ _ _ (some (.int (nI (ed - inN nb (s ||| 2 ^ v) - inN nb (sd (2 ^ n - 1) (s ||| 2 ^ v))))), _, _, _)
  refine wp_go (f' := (4, [.ref 7, .int (nI 3), .int (nI s), .int (nI v), .retAddr 0, .retAddr 0], [.int ((nI 1) <<< ((nI v) &&& 31)), .int (nI s)], MW A B F sw, 0, 0)) 4 rfl ?_
  rw [bx_one (by omega)]
  refine wp_go (f' := (5, [.ref 7, .int (nI 3), .int (nI s), .int (nI v), .retAddr 0, .retAddr 0], [.int ((nI s) ||| (nI (2 ^ v)))], MW A B F sw, 0, 0)) 1 rfl ?_
  rw [bx_or]
  refine wp_go (f' := (11, [.ref 7, .int (nI 3), .int (nI s), .int (nI v), .int (nI (s ||| (2 ^ v))), .retAddr 0], [.ref 1], MW A B F sw, 0, 0)) 3 rfl ?_
  refine wp_call rfl rfl rfl (ev_up (ev_gAll hC) (by decide)) ?_
  refine wp_eq (f' := (14, [.ref 7, .int (nI 3), .int (nI s), .int (nI v), .int (nI (s ||| (2 ^ v))), .retAddr 0], [.int (nI (2 ^ n - 1))], MW A B F sw, 0, 0)) rfl ?_
  refine wp_go (f' := (19, [.ref 7, .int (nI 3), .int (nI s), .int (nI v), .int (nI (s ||| (2 ^ v))), .retAddr 0], [.int ((nI (2 ^ n - 1)) &&& ((nI (s ||| (2 ^ v))) ^^^ (-1)))], MW A B F sw, 0, 0)) 4 rfl ?_
  rw [bx_sd (by omega)]
  refine wp_go (f' := (125, [.ref 7, .int (nI 3), .int (nI s), .int (nI v), .int (nI (s ||| (2 ^ v))), .int (nI (sd (2 ^ n - 1) (s ||| (2 ^ v))))], [.int (F 1)], MW A B F sw, 0, 0)) 6 rfl ?_
  rw [hE]
  refine wp_go (f' := (134, [.ref 7, .int (nI 3), .int (nI s), .int (nI v), .int (nI (s ||| (2 ^ v))), .int (nI (sd (2 ^ n - 1) (s ||| (2 ^ v))))], [.int (nI (s ||| (2 ^ v))), .ref 5, .int (nI ed)], MW A B F sw, 0, 0)) 4 rfl ?_
  refine wp_iald rfl rfl (by omega) (by decide) ?_
  rw [(hR (s ||| (2 ^ v)) (by omega)).2.1]
  refine wp_go (f' := (136, [.ref 7, .int (nI 3), .int (nI s), .int (nI v), .int (nI (s ||| (2 ^ v))), .int (nI (sd (2 ^ n - 1) (s ||| (2 ^ v))))], [.int ((nI ed) - (nI (inN nb (s ||| (2 ^ v)))))], MW A B F sw, 0, 0)) 1 rfl ?_
  rw [pk_sub (by omega)]
  refine wp_go (f' := (145, [.ref 7, .int (nI 3), .int (nI s), .int (nI v), .int (nI (s ||| (2 ^ v))), .int (nI (sd (2 ^ n - 1) (s ||| (2 ^ v))))], [.int (nI (sd (2 ^ n - 1) (s ||| (2 ^ v)))), .ref 5, .int (nI (ed - (inN nb (s ||| (2 ^ v)))))], MW A B F sw, 0, 0)) 4 rfl ?_
  refine wp_iald rfl rfl (by omega) (by decide) ?_
  rw [(hR (sd (2 ^ n - 1) (s ||| (2 ^ v))) (by omega)).2.1]
  refine wp_go (f' := (147, [.ref 7, .int (nI 3), .int (nI s), .int (nI v), .int (nI (s ||| (2 ^ v))), .int (nI (sd (2 ^ n - 1) (s ||| (2 ^ v))))], [.int ((nI (ed - (inN nb (s ||| (2 ^ v))))) - (nI (inN nb (sd (2 ^ n - 1) (s ||| (2 ^ v))))))], MW A B F sw, 0, 0)) 1 rfl ?_
  rw [pk_sub (by omega)]
  exact wp_iret rfl
theorem ev_own4 (hC : CI A F n nb) (hR : RI A n nb) {ed : Nat} (hE : F 1 = nI ed) (hQ : CEd n nb ed) {s v : Nat} (hs : s < 2 ^ n) (hv : v < n) : mv_Ev xs Ls 3 42 [.ref 7, .int (nI 4), .int (nI s), .int (nI v)] (MW A B F sw) (some (.int (nI (ownC n nb ed 4 s v))), MW A B F sw, 0, 0) := by
  refine ev_of_wp rfl rfl rfl ?_
  have hn := hC.1
  have hp := pow10 hn
  have hp1 : 1 ≤ 2 ^ n := Nat.one_le_two_pow
  have hal := all_lt hn
  have hw := or_ltn hs hv
  have htl := tch_lt (nb := nb) (v := v) hn hs
  have hpl := past_lt (s := s) hC.2.2.2 (v := v) (by omega) (by omega)
  have hsl : sd (2 ^ n - 1) (s ||| 2 ^ v) < 2 ^ n := by have h9 := sd_le (a := 2 ^ n - 1) (b := s ||| 2 ^ v); omega
  have hq1 := hQ.1
  have hq2 := hQ.2 (s ||| 2 ^ v) hw
  have hx1 : (s ||| 2 ^ v) &&& rcN nb (sd (2 ^ n - 1) (s ||| 2 ^ v)) < 1024 := and_lt (by omega)
  have hx2 : sd (2 ^ n - 1) (s ||| 2 ^ v) &&& rcN nb (s ||| 2 ^ v) < 1024 := and_lt (by omega)
  have hx3 : sd (pastN nb s v) (nb v) < 1024 := sd_lt hpl
  show mv_Wp _ _ _ _ _ _ _ _ (some (.int (nI (pop (sd (pastN nb s v) (nb v))))), _, _, _)
  refine wp_go (f' := (4, [.ref 7, .int (nI 4), .int (nI s), .int (nI v), .retAddr 0, .retAddr 0], [.int ((nI 1) <<< ((nI v) &&& 31)), .int (nI s)], MW A B F sw, 0, 0)) 4 rfl ?_
  rw [bx_one (by omega)]
  refine wp_go (f' := (5, [.ref 7, .int (nI 4), .int (nI s), .int (nI v), .retAddr 0, .retAddr 0], [.int ((nI s) ||| (nI (2 ^ v)))], MW A B F sw, 0, 0)) 1 rfl ?_
  rw [bx_or]
  refine wp_go (f' := (11, [.ref 7, .int (nI 4), .int (nI s), .int (nI v), .int (nI (s ||| (2 ^ v))), .retAddr 0], [.ref 1], MW A B F sw, 0, 0)) 3 rfl ?_
  refine wp_call rfl rfl rfl (ev_up (ev_gAll hC) (by decide)) ?_
  refine wp_eq (f' := (14, [.ref 7, .int (nI 4), .int (nI s), .int (nI v), .int (nI (s ||| (2 ^ v))), .retAddr 0], [.int (nI (2 ^ n - 1))], MW A B F sw, 0, 0)) rfl ?_
  refine wp_go (f' := (19, [.ref 7, .int (nI 4), .int (nI s), .int (nI v), .int (nI (s ||| (2 ^ v))), .retAddr 0], [.int ((nI (2 ^ n - 1)) &&& ((nI (s ||| (2 ^ v))) ^^^ (-1)))], MW A B F sw, 0, 0)) 4 rfl ?_
  rw [bx_sd (by omega)]
  refine wp_go (f' := (154, [.ref 7, .int (nI 4), .int (nI s), .int (nI v), .int (nI (s ||| (2 ^ v))), .int (nI (sd (2 ^ n - 1) (s ||| (2 ^ v))))], [.int (nI v), .int (nI s), .ref 1], MW A B F sw, 0, 0)) 7 rfl ?_
  refine wp_call rfl rfl rfl (ev_up (ev_gSees hC hR (s := s) (v := v) (by omega) (by omega)) (by decide)) ?_
  refine wp_eq (f' := (157, [.ref 7, .int (nI 4), .int (nI s), .int (nI v), .int (nI (s ||| (2 ^ v))), .int (nI (sd (2 ^ n - 1) (s ||| (2 ^ v))))], [.int (nI (pastN nb s v))], MW A B F sw, 0, 0)) rfl ?_
  refine wp_go (f' := (165, [.ref 7, .int (nI 4), .int (nI s), .int (nI v), .int (nI (s ||| (2 ^ v))), .int (nI (sd (2 ^ n - 1) (s ||| (2 ^ v))))], [.int (nI v), .ref 2, .int (nI (pastN nb s v))], MW A B F sw, 0, 0)) 4 rfl ?_
  refine wp_iald rfl rfl (by omega) (by decide) ?_
  rw [hC.2.2.1 v (by omega)]
  have hnb := hC.2.2.2 v (by omega)
  refine wp_go (f' := (169, [.ref 7, .int (nI 4), .int (nI s), .int (nI v), .int (nI (s ||| (2 ^ v))), .int (nI (sd (2 ^ n - 1) (s ||| (2 ^ v))))], [.int ((nI (pastN nb s v)) &&& ((nI (nb v)) ^^^ (-1)))], MW A B F sw, 0, 0)) 3 rfl ?_
  rw [bx_sd (by omega)]
  refine wp_call rfl rfl rfl (ev_up (ev_bitCount (s := sd (pastN nb s v) (nb v)) (by omega) _) (by decide)) ?_
  refine wp_eq (f' := (172, [.ref 7, .int (nI 4), .int (nI s), .int (nI v), .int (nI (s ||| (2 ^ v))), .int (nI (sd (2 ^ n - 1) (s ||| (2 ^ v))))], [.int (nI (pop (sd (pastN nb s v) (nb v))))], MW A B F sw, 0, 0)) rfl ?_
  have hpp := pop_le (s := sd (pastN nb s v) (nb v)) (by omega)
  exact wp_iret rfl
theorem ev_own (hC : CI A F n nb) (hR : RI A n nb) {ed : Nat} (hE : F 1 = nI ed) (hQ : CEd n nb ed) {kind : Nat} (hk : kind ≤ 4) {s v : Nat} (hs : s < 2 ^ n) (hv : v < n) : mv_Ev xs Ls 3 42 [.ref 7, .int (nI kind), .int (nI s), .int (nI v)] (MW A B F sw) (some (.int (nI (ownC n nb ed kind s v))), MW A B F sw, 0, 0) := by
  match kind, hk with
  | 0, _ => exact ev_own0 hC hR hE hQ hs hv
  | 1, _ => exact ev_own1 hC hR hE hQ hs hv
  | 2, _ => exact ev_own2 hC hR hE hQ hs hv
  | 3, _ => exact ev_own3 hC hR hE hQ hs hv
  | 4, _ => exact ev_own4 hC hR hE hQ hs hv
theorem ev_costFrom (hC : CI A F n nb) (hR : RI A n nb) {ed : Nat} (hE : F 1 = nI ed) (hQ : CEd n nb ed) {kind : Nat} (hk : kind ≤ 4) {s v t : Nat} (hs : s < 2 ^ n) (hv : v < n) (hT : A 16 (s ||| 2 ^ v) = nI t ∧ t ≤ 1000) : mv_Ev xs Ls 4 41 [.ref 7, .int (nI kind), .int (nI s), .int (nI v)] (MW A B F sw) (some (.int (nI (comb kind (ownC n nb ed kind s v) t))), MW A B F sw, 0, 0) := by
  refine ev_of_wp rfl rfl rfl ?_
  have hn := hC.1
  have hp := pow10 hn
  have hp1 : 1 ≤ 2 ^ n := Nat.one_le_two_pow
  have hal := all_lt hn
  have hw := or_ltn hs hv
  have hol := ownC_le (kind := kind) hn hC.2.2.2 hQ hs hv hk
  have hT2 := hT.2
  refine wp_go (f' := (4, [.ref 7, .int (nI kind), .int (nI s), .int (nI v), .retAddr 0, .retAddr 0], [.int (nI v), .int (nI s), .int (nI kind), .ref 7], MW A B F sw, 0, 0)) 4 rfl ?_
  refine wp_call rfl rfl rfl (ev_up (ev_own hC hR hE hQ hk hs hv) (by decide)) ?_
  refine wp_eq (f' := (7, [.ref 7, .int (nI kind), .int (nI s), .int (nI v), .retAddr 0, .retAddr 0], [.int (nI (ownC n nb ed kind s v))], MW A B F sw, 0, 0)) rfl ?_
  refine wp_go (f' := (17, [.ref 7, .int (nI kind), .int (nI s), .int (nI v), .int (nI (ownC n nb ed kind s v)), .retAddr 0], [.int ((nI 1) <<< ((nI v) &&& 31)), .int (nI s), .ref 16], MW A B F sw, 0, 0)) 7 rfl ?_
  rw [bx_one (by omega)]
  refine wp_go (f' := (18, [.ref 7, .int (nI kind), .int (nI s), .int (nI v), .int (nI (ownC n nb ed kind s v)), .retAddr 0], [.int ((nI s) ||| (nI (2 ^ v))), .ref 16], MW A B F sw, 0, 0)) 1 rfl ?_
  rw [bx_or]
  refine wp_iald rfl rfl (by omega) (by decide) ?_
  rw [hT.1]
  refine wp_go (f' := ((if ¬ (nI kind) = (nI 4) then 34 else 26), [.ref 7, .int (nI kind), .int (nI s), .int (nI v), .int (nI (ownC n nb ed kind s v)), .int (nI t)], [], MW A B F sw, 0, 0)) 4 rfl ?_
  refine wp_ite (fun h1 => ?_) (fun h1 => ?_)
  · have h1 : ¬ (kind = 4) := fun h9 => h1 ((nI_eq (a := kind) (b := 4) (by omega) (by omega)).mpr h9)
    refine wp_go (f' := (41, [.ref 7, .int (nI kind), .int (nI s), .int (nI v), .int (nI (ownC n nb ed kind s v)), .int (nI t)], [.int (if (nI (ownC n nb ed kind s v)) < (nI t) then nI t else nI (ownC n nb ed kind s v))], MW A B F sw, 0, 0)) 3 rfl ?_
    rw [nI_ite (by first | omega | (split <;> omega)) (by first | omega | (split <;> omega))]
    rw [show comb kind (ownC n nb ed kind s v) t = if ownC n nb ed kind s v < t then t else ownC n nb ed kind s v by unfold comb; rw [if_neg h1]; split <;> split <;> omega]
    exact wp_iret rfl
  · have h1 := Classical.not_not.mp h1; have h1 : kind = 4 := (nI_eq (a := kind) (b := 4) (by omega) (by omega)).mp h1
    refine wp_go (f' := (31, [.ref 7, .int (nI kind), .int (nI s), .int (nI v), .int (nI (ownC n nb ed kind s v)), .int (nI t)], [.int ((nI (ownC n nb ed kind s v)) + (nI t))], MW A B F sw, 0, 0)) 3 rfl ?_
    rw [nI_add]
    refine wp_go (f' := (41, [.ref 7, .int (nI kind), .int (nI s), .int (nI v), .int (nI (ownC n nb ed kind s v)), .int (nI t)], [.int (nI ((ownC n nb ed kind s v) + t))], MW A B F sw, 0, 0)) 1 rfl ?_
    rw [show comb kind (ownC n nb ed kind s v) t = (ownC n nb ed kind s v) + t by unfold comb; rw [if_pos h1]]
    exact wp_iret rfl
theorem lp_fill (hC : CI A F n nb) (hR : RI A n nb) {ed : Nat} (hE : F 1 = nI ed) (hQ : CEd n nb ed) {kind : Nat} (hk : kind ≤ 4) {s : Nat} (hs : s < 2 ^ n) (hsn : s ≠ 2 ^ n - 1) {f : Nat → Int32} (hf : ∀ j, s < j → j < 2 ^ n → f j = nI (bgN (ownC n nb ed kind) n kind j)) {r : mv_R} (hex : mv_Wp xs Ls 4 4 false none mv_c40 (31, [.ref 7, .int (nI kind), .int (nI (2 ^ n - 1)), .int (nI s), .int (nI (bgN (ownC n nb ed kind) n kind s)), .int (nI n)], [], MW (upA A 16 f) B F sw, 0, 0) r) : mv_Wp xs Ls 4 4 false none mv_c40 (31, [.ref 7, .int (nI kind), .int (nI (2 ^ n - 1)), .int (nI s), .int (nI 1000), .int (nI 0)], [], MW (upA A 16 f) B F sw, 0, 0) r := by
  have hn := hC.1
  have hp := pow10 hn
  have hp1 : 1 ≤ 2 ^ n := Nat.one_le_two_pow
  have hal := all_lt hn
  have hC2 : CI (upA A 16 f) F n nb := hC
  have hR2 : RI (upA A 16 f) n nb := hR
  have hbe := bgN_eq (c := ownC n nb ed kind) (kind := kind) hs
  rw [if_neg hsn] at hbe
  rw [hbe] at hex
  refine for_ind (P := fun (k m : Nat) => m ≤ 1000 → mv_Wp xs Ls 4 4 false none mv_c40 (31, [.ref 7, .int (nI kind), .int (nI (2 ^ n - 1)), .int (nI s), .int (nI m), .int (nI k)], [], MW (upA A 16 f) B F sw, 0, 0) r) (f := bgS (ownC n nb ed kind) kind s (bgN (ownC n nb ed kind) n kind)) (n := n) ?_ n 1000 (Nat.le_refl _) ?_ (by omega)
  · intro k m hk9 ih hm
    refine wp_go (f' := (40, [.ref 7, .int (nI kind), .int (nI (2 ^ n - 1)), .int (nI s), .int (nI m), .int (nI k)], [.int (F 0), .int (nI k)], MW (upA A 16 f) B F sw, 0, 0)) 4 rfl ?_
    rw [hC.2.1]
    refine wp_go (f' := ((if (nI n) ≤ (nI k) then 73 else 43), [.ref 7, .int (nI kind), .int (nI (2 ^ n - 1)), .int (nI s), .int (nI m), .int (nI k)], [], MW (upA A 16 f) B F sw, 0, 0)) 1 rfl ?_
    refine wp_ite (fun h9 => absurd h9 (nI_ge hk9 (by omega))) (fun _ => ?_)
    refine wp_go (f' := (49, [.ref 7, .int (nI kind), .int (nI (2 ^ n - 1)), .int (nI s), .int (nI m), .int (nI k)], [.int (((nI s) >>> ((nI k) &&& 31)) &&& (nI 1))], MW (upA A 16 f) B F sw, 0, 0)) 5 rfl ?_
    rw [bx_bit (by omega) (by omega)]
    refine wp_go (f' := ((if ¬ (bI (s.testBit k)) = 0 then 67 else 52), [.ref 7, .int (nI kind), .int (nI (2 ^ n - 1)), .int (nI s), .int (nI m), .int (nI k)], [], MW (upA A 16 f) B F sw, 0, 0)) 1 rfl ?_
    refine wp_ite (fun h1 => ?_) (fun h1 => ?_)
    · have h1 := bI_n0 h1
      refine wp_go (f' := (70, [.ref 7, .int (nI kind), .int (nI (2 ^ n - 1)), .int (nI s), .int (nI m), .int ((nI k) + 1)], [], MW (upA A 16 f) B F sw, 0, 0)) 1 rfl ?_
      rw [nI_1]
      refine wp_go (f' := (31, [.ref 7, .int (nI kind), .int (nI (2 ^ n - 1)), .int (nI s), .int (nI m), .int (nI (k + 1))], [], MW (upA A 16 f) B F sw, 0, 0)) 1 rfl ?_
      have e9 : bgS (ownC n nb ed kind) kind s (bgN (ownC n nb ed kind) n kind) k m = m := by unfold bgS; rw [if_pos h1]
      rw [e9] at ih
      exact ih hm
    · have h1 := Classical.not_not.mp h1; have h1 := bI_0.mp h1
      have hbit := h1
      refine wp_go (f' := (59, [.ref 7, .int (nI kind), .int (nI (2 ^ n - 1)), .int (nI s), .int (nI m), .int (nI k)], [.int (nI k), .int (nI s), .int (nI kind), .ref 7, .int (nI m)], MW (upA A 16 f) B F sw, 0, 0)) 5 rfl ?_
      refine wp_call rfl rfl rfl (ev_up (ev_costFrom hC2 hR2 hE hQ hk (s := s) (v := k) (t := (bgN (ownC n nb ed kind) n kind (s ||| 2 ^ k))) hs hk9 ⟨hf _ (or_gt hbit) (or_ltn hs hk9), bgN_le (or_ltn hs hk9)⟩) (by decide)) ?_
      refine wp_eq (f' := (62, [.ref 7, .int (nI kind), .int (nI (2 ^ n - 1)), .int (nI s), .int (nI m), .int (nI k)], [.int (nI (comb kind (ownC n nb ed kind s k) (bgN (ownC n nb ed kind) n kind (s ||| 2 ^ k)))), .int (nI m)], MW (upA A 16 f) B F sw, 0, 0)) rfl ?_
      have hcb : comb kind (ownC n nb ed kind s k) (bgN (ownC n nb ed kind) n kind (s ||| 2 ^ k)) ≤ 1020 := by have hol := ownC_le (kind := kind) hn hC.2.2.2 hQ hs hk9 hk; have hbl := bgN_le (c := ownC n nb ed kind) (kind := kind) (or_ltn hs hk9); unfold comb; (repeat' split) <;> omega
      refine wp_go (f' := (65, [.ref 7, .int (nI kind), .int (nI (2 ^ n - 1)), .int (nI s), .int (nI m), .int (nI k)], [.int (if (nI (comb kind (ownC n nb ed kind s k) (bgN (ownC n nb ed kind) n kind (s ||| 2 ^ k)))) < (nI m) then nI (comb kind (ownC n nb ed kind s k) (bgN (ownC n nb ed kind) n kind (s ||| 2 ^ k))) else nI m)], MW (upA A 16 f) B F sw, 0, 0)) 1 rfl ?_
      rw [nI_ite (by first | omega | (split <;> omega)) (by first | omega | (split <;> omega))]
      refine wp_go (f' := (70, [.ref 7, .int (nI kind), .int (nI (2 ^ n - 1)), .int (nI s), .int (nI (if comb kind (ownC n nb ed kind s k) (bgN (ownC n nb ed kind) n kind (s ||| 2 ^ k)) < m then comb kind (ownC n nb ed kind s k) (bgN (ownC n nb ed kind) n kind (s ||| 2 ^ k)) else m)), .int ((nI k) + 1)], [], MW (upA A 16 f) B F sw, 0, 0)) 2 rfl ?_
      rw [nI_1]
      refine wp_go (f' := (31, [.ref 7, .int (nI kind), .int (nI (2 ^ n - 1)), .int (nI s), .int (nI (if comb kind (ownC n nb ed kind s k) (bgN (ownC n nb ed kind) n kind (s ||| 2 ^ k)) < m then comb kind (ownC n nb ed kind s k) (bgN (ownC n nb ed kind) n kind (s ||| 2 ^ k)) else m)), .int (nI (k + 1))], [], MW (upA A 16 f) B F sw, 0, 0)) 1 rfl ?_
      have e9 : bgS (ownC n nb ed kind) kind s (bgN (ownC n nb ed kind) n kind) k m = if comb kind (ownC n nb ed kind s k) (bgN (ownC n nb ed kind) n kind (s ||| 2 ^ k)) < m then comb kind (ownC n nb ed kind s k) (bgN (ownC n nb ed kind) n kind (s ||| 2 ^ k)) else m := by unfold bgS; rw [h1]; rfl
      rw [e9] at ih
      exact ih (by split <;> omega)
  · exact fun hm => hex
theorem lp_fill2 (hC : CI A F n nb) (hR : RI A n nb) {ed : Nat} (hE : F 1 = nI ed) (hQ : CEd n nb ed) {kind : Nat} (hk : kind ≤ 4) : ∀ (t : Nat) (f : Nat → Int32) (d4 d5 : Value), t ≤ 2 ^ n - 1 → (∀ j, t ≤ j → j < 2 ^ n → f j = nI (bgN (ownC n nb ed kind) n kind j)) → (∀ j, 2 ^ n ≤ j → f j = A 16 j) → mv_Wp xs Ls 4 4 false none mv_c40 (19, [.ref 7, .int (nI kind), .int (nI (2 ^ n - 1)), .int ((nI t) + (-1)), d4, d5], [], MW (upA A 16 f) B F sw, 0, 0) (none, MW (upA A 16 (bgA (ownC n nb ed kind) n kind (A 16))) B F sw, 0, 0) := by
  have hn := hC.1
  have hp := pow10 hn
  have hp1 : 1 ≤ 2 ^ n := Nat.one_le_two_pow
  have hal := all_lt hn
  intro t
  induction t with
  | zero =>
    intro f d4 d5 ht hf hg
    have e : f = bgA (ownC n nb ed kind) n kind (A 16) := by
      funext j
      unfold bgA
      split
      · rename_i h; exact hf j (Nat.zero_le _) h
      · rename_i h; exact hg j (by omega)
    subst e
    rw [show nI 0 + (-1) = (-1 : Int32) by decide]
    refine wp_go (f' := ((if (-1) < 0 then 87 else 23), [.ref 7, .int (nI kind), .int (nI (2 ^ n - 1)), .int (-1), d4, d5], [], MW (upA A 16 (bgA (ownC n nb ed kind) n kind (A 16))) B F sw, 0, 0)) 2 rfl ?_
    refine wp_ite (fun _ => ?_) (fun h9 => absurd (by decide : (-1 : Int32) < 0) h9)
    exact wp_vret rfl
  | succ s ih =>
    intro f d4 d5 ht hf hg
    rw [pk_m1]
    refine wp_go (f' := ((if (nI s) < 0 then 87 else 23), [.ref 7, .int (nI kind), .int (nI (2 ^ n - 1)), .int (nI s), d4, d5], [], MW (upA A 16 f) B F sw, 0, 0)) 2 rfl ?_
    refine wp_ite (fun h9 => absurd h9 (nI_pos (n := s) (by omega))) (fun _ => ?_)
    refine wp_go (f' := (31, [.ref 7, .int (nI kind), .int (nI (2 ^ n - 1)), .int (nI s), .int (nI 1000), .int (nI 0)], [], MW (upA A 16 f) B F sw, 0, 0)) 4 rfl ?_
    refine lp_fill hC hR hE hQ hk (by omega) (by omega) (fun j h1 h2 => hf j (by omega) h2) ?_
    have hbb := bgN_le (c := ownC n nb ed kind) (kind := kind) (s := s) (n := n) (by omega)
    refine wp_go (f' := (40, [.ref 7, .int (nI kind), .int (nI (2 ^ n - 1)), .int (nI s), .int (nI (bgN (ownC n nb ed kind) n kind s)), .int (nI n)], [.int (F 0), .int (nI n)], MW (upA A 16 f) B F sw, 0, 0)) 4 rfl ?_
    rw [hC.2.1]
    refine wp_go (f' := ((if (nI n) ≤ (nI n) then 73 else 43), [.ref 7, .int (nI kind), .int (nI (2 ^ n - 1)), .int (nI s), .int (nI (bgN (ownC n nb ed kind) n kind s)), .int (nI n)], [], MW (upA A 16 f) B F sw, 0, 0)) 1 rfl ?_
    refine wp_ite (fun _ => ?_) (fun h9 => absurd (nI_le (Nat.le_refl _) (by omega)) h9)
    refine wp_go (f' := (80, [.ref 7, .int (nI kind), .int (nI (2 ^ n - 1)), .int (nI s), .int (nI (bgN (ownC n nb ed kind) n kind s)), .int (nI n)], [.int (nI (bgN (ownC n nb ed kind) n kind s)), .int (nI s), .ref 16], MW (upA A 16 f) B F sw, 0, 0)) 4 rfl ?_
    refine wp_iast rfl rfl (by omega) (by decide) ?_
    refine wp_eq (f' := (81, [.ref 7, .int (nI kind), .int (nI (2 ^ n - 1)), .int (nI s), .int (nI (bgN (ownC n nb ed kind) n kind s)), .int (nI n)], [], MW (upA A 16 (upd f s (nI (bgN (ownC n nb ed kind) n kind s)))) B F sw, 0, 0)) rfl ?_
    refine wp_go (f' := (19, [.ref 7, .int (nI kind), .int (nI (2 ^ n - 1)), .int ((nI s) + (-1)), .int (nI (bgN (ownC n nb ed kind) n kind s)), .int (nI n)], [], MW (upA A 16 (upd f s (nI (bgN (ownC n nb ed kind) n kind s)))) B F sw, 0, 0)) 2 rfl ?_
    refine ih (upd f s (nI (bgN (ownC n nb ed kind) n kind s))) _ _ (by omega) ?_ ?_
    · intro j h1 h2
      by_cases e : j = s
      · rw [e, pk_us]
      · rw [pk_un e]; exact hf j (by omega) h2
    · intro j h1
      rw [pk_un (by omega)]
      exact hg j h1
theorem sub_1 {x : Int32} : x - nI 1 = x + (-1) := by rw [show nI 1 = (1 : Int32) from rfl, Int32.sub_eq_add_neg]
theorem ev_fill (hC : CI A F n nb) (hR : RI A n nb) {ed : Nat} (hE : F 1 = nI ed) (hQ : CEd n nb ed) {kind : Nat} (hk : kind ≤ 4) : mv_Ev xs Ls 5 40 [.ref 7, .int (nI kind)] (MW A B F sw) (none, MW (upA A 16 (bgA (ownC n nb ed kind) n kind (A 16))) B F sw, 0, 0) := by
  refine ev_of_wp rfl rfl rfl ?_
  have hn := hC.1
  have hp := pow10 hn
  have hp1 : 1 ≤ 2 ^ n := Nat.one_le_two_pow
  have hal := all_lt hn
  refine wp_go (f' := (4, [.ref 7, .int (nI kind), .retAddr 0, .retAddr 0, .retAddr 0, .retAddr 0], [.ref 1], MW A B F sw, 0, 0)) 2 rfl ?_
  refine wp_call rfl rfl rfl (ev_up (ev_gAll hC) (by decide)) ?_
  refine wp_eq (f' := (7, [.ref 7, .int (nI kind), .retAddr 0, .retAddr 0, .retAddr 0, .retAddr 0], [.int (nI (2 ^ n - 1))], MW A B F sw, 0, 0)) rfl ?_
  refine wp_go (f' := (14, [.ref 7, .int (nI kind), .int (nI (2 ^ n - 1)), .retAddr 0, .retAddr 0, .retAddr 0], [.int (nI 0), .int (nI (2 ^ n - 1)), .ref 16], MW A B F sw, 0, 0)) 5 rfl ?_
  refine wp_iast rfl rfl (by omega) (by decide) ?_
  refine wp_eq (f' := (15, [.ref 7, .int (nI kind), .int (nI (2 ^ n - 1)), .retAddr 0, .retAddr 0, .retAddr 0], [], MW (upA A 16 (upd (A 16) (2 ^ n - 1) (nI 0))) B F sw, 0, 0)) rfl ?_
  refine wp_go (f' := (18, [.ref 7, .int (nI kind), .int (nI (2 ^ n - 1)), .retAddr 0, .retAddr 0, .retAddr 0], [.int ((nI (2 ^ n - 1)) - (nI 1))], MW (upA A 16 (upd (A 16) (2 ^ n - 1) (nI 0))) B F sw, 0, 0)) 3 rfl ?_
  rw [sub_1]
  refine wp_go (f' := (19, [.ref 7, .int (nI kind), .int (nI (2 ^ n - 1)), .int ((nI (2 ^ n - 1)) + (-1)), .retAddr 0, .retAddr 0], [], MW (upA A 16 (upd (A 16) (2 ^ n - 1) (nI 0))) B F sw, 0, 0)) 1 rfl ?_
  refine lp_fill2 hC hR hE hQ hk (2 ^ n - 1) _ _ _ (Nat.le_refl _) ?_ ?_
  · intro j h1 h2
    rw [show j = 2 ^ n - 1 by omega, pk_us, bgN_all]
  · intro j h1
    rw [pk_un (by omega)]
end CC
