theorem upA_self {A : Nat → Nat → Int32} {k : Nat} {f : Nat → Int32} (h : A k = f) : upA A k f = A := by
  funext i
  unfold upA
  cases e : Nat.beq i k with
  | true => rw [Nat.eq_of_beq_eq_true e, h]
  | false => rfl
theorem upA_ne {A : Nat → Nat → Int32} {k i : Nat} {f : Nat → Int32} (h : i ≠ k) : upA A k f i = A i := by
  unfold upA
  cases e : Nat.beq i k with
  | true => exact absurd (Nat.eq_of_beq_eq_true e) h
  | false => rfl
theorem upF_ne {F : Nat → Int32} {k i : Nat} {x : Int32} (h : i ≠ k) : upF F k x i = F i := by
  unfold upF
  cases e : Nat.beq i k with
  | true => exact absurd (Nat.eq_of_beq_eq_true e) h
  | false => rfl
theorem rowT_rowT {r : Nat → Nat} {g : Nat → Int32} : rowT r 10 (rowT r 10 g) = rowT r 10 g := by
  funext j
  unfold rowT
  split <;> rfl
theorem rowT_ov {r q : Nat → Nat} {g : Nat → Int32} : rowT r 10 (rowT q 10 g) = rowT r 10 g := by
  funext j
  unfold rowT
  split <;> rfl
theorem bandW_lt {n : Nat} {nb : Nat → Nat} {ed : Nat} (hn : n ≤ 10) : ∀ f w r, (∀ j, j < 10 → r j < 10) → ∀ j, j < 10 → (bandW n nb ed f w r).2 j < 10
  | 0, w, r, hr => hr
  | f + 1, w, r, hr => by
    have h1 := bandF_lt (nb := nb) (ed := ed) (w := w) hn n 0 0 r hr
    unfold bandW
    split
    · split
      · exact h1
      · exact bandW_lt hn f (w + 1) _ h1
    · exact hr
/-- a row and its cost are those of a kind -/
def KR (n : Nat) (nb : Nat → Nat) (ed : Nat) : Nat → (Nat → Int32) → Int32 → Prop
  | 2, row, c => ∃ r g, (∀ j, j < 10 → r j < 10) ∧ row = rowT (bandW n nb ed n (bgN (ownC n nb ed 2) n 2 0) r).2 10 g ∧ c = nI (bandW n nb ed n (bgN (ownC n nb ed 2) n 2 0) r).1
  | 5, row, c => (∃ g, row = (hayN n nb g).2.2) ∧ c = nI (hgoN n nb)
  | k, row, c => (∃ g, row = (layN n nb k g).2.2) ∧ c = nI (bbN n nb k 0)
def KD (A : Nat → Nat → Int32) (n : Nat) (nb : Nat → Nat) (ed k : Nat) : Prop := KR n nb ed k (A (9 + k)) (A 15 k)
/-- a row of small numbers -/
def RW (g : Nat → Int32) : Prop := ∃ r f, (∀ j, j < 10 → r j < 10) ∧ g = rowT r 10 f
/-- what the orders keep -/
def OI (A : Nat → Nat → Int32) (F : Nat → Int32) (n : Nat) (nb : Nat → Nat) (ed : Nat) : Prop := ∃ st, F 4 = nI st ∧ st < 64 ∧ (F 5 = F 2 → ∀ k, k < 6 → st.testBit k = true → KD A n nb ed k) ∧ (∃ h, HI A h) ∧ RW (A 11)
/-- nothing but a kind's own has changed -/
def FR (A A2 : Nat → Nat → Int32) (kd : Nat) : Prop := (∀ c, c ≤ 8 ∨ 23 ≤ c → A2 c = A c) ∧ ∀ k, k < 6 → k ≠ kd → A2 (9 + k) = A (9 + k) ∧ A2 15 k = A 15 k
theorem or_64 {st kd : Nat} (h : st < 64) (hk : kd < 6) : st ||| 2 ^ kd < 64 := by
  have : 2 ^ kd < 2 ^ 6 := Nat.pow_lt_pow_of_lt (by decide) hk
  exact Nat.or_lt_two_pow (n := 6) (by omega) (by omega)
section CC
variable {xs : Nat → Int32} {Ls : Nat} {A : Nat → Nat → Int32} {B : Nat → Nat → Int64} {F : Nat → Int32} {sw : Bool} {n : Nat} {nb : Nat → Nat}
theorem ev_layBand1 (hC : CI A F n nb) (hR : RI A n nb) {ed : Nat} (hE : F 1 = nI ed) (hQ : CEd n nb ed) (hT : ∀ j, j < 2 ^ n → A 16 j = nI (bgN (ownC n nb ed 2) n 2 j)) {r : Nat → Nat} {f : Nat → Int32} (hr : ∀ j, j < 10 → r j < 10) (h11 : A 11 = rowT r 10 f) : mv_Ev xs Ls (5 + n + 1) 43 [.ref 7, .ref 11] (MW A B F sw) (some (.int (nI (bandW n nb ed n (bgN (ownC n nb ed 2) n 2 0) r).1)), MW (upA A 11 (rowT (bandW n nb ed n (bgN (ownC n nb ed 2) n 2 0) r).2 10 f)) B F sw, 0, 0) := by
  have h := ev_layBand (xs := xs) (Ls := Ls) (B := B) (sw := sw) hC hR hE hQ hT hr
  rw [h11, rowT_rowT, rowT_ov, upA_self h11] at h
  exact h
theorem lay_0 (hC : CI A F n nb) (hR : RI A n nb) (hZ : CZ A) {ed : Nat} (hE : F 1 = nI ed) (hQ : CEd n nb ed) (hH : ∃ h, HI A h) (hW : RW (A 11)) {st : Nat} (hS : F 4 = nI st) (hst : st < 64) (hq : CQ n nb ed 0) : ∃ A2 : Nat → Nat → Int32, mv_Wp xs Ls 16 4 false none mv_c32 (49, [.ref 7, .int (nI 0)], [], MW A B F sw, 0, 0) (none, MW A2 B (upF F 4 (nI (st ||| 1))) sw, 0, 0) ∧ FR A A2 0 ∧ KD A2 n nb ed 0 ∧ RI A2 n nb ∧ CZ A2 ∧ (∃ h, HI A2 h) ∧ RW (A2 11) := by
  have hn := hC.1
  have hp := pow10 hn
  have hp1 : 1 ≤ 2 ^ n := Nat.one_le_two_pow
  have hal := all_lt hn
  have hC2 : CI A (upF F 4 (nI (st ||| 1))) n nb := hC
  have hE2 : (upF F 4 (nI (st ||| 1))) 1 = nI ed := hE
  refine ⟨(upA (upA (upA A 16 (bgA (ownC n nb ed 0) n 0 (A 16))) 9 (layN n nb 0 (A 9)).2.2) 15 (upd (A 15) 0 (nI (bbN n nb 0 0)))), ?_, ?_, ?_, hR, hZ, ?_, ?_⟩
  · skip
    refine wp_go (f' := (54, [.ref 7, .int (nI 0)], [.int (F 4), .ref 7], MW A B F sw, 0, 0)) 3 rfl ?_
    rw [hS]
    refine wp_go (f' := (57, [.ref 7, .int (nI 0)], [.int ((nI 1) <<< ((nI 0) &&& 31)), .int (nI st), .ref 7], MW A B F sw, 0, 0)) 3 rfl ?_
    rw [(by decide : nI 1 <<< (nI 0 &&& 31) = nI 1)]
    refine wp_go (f' := (58, [.ref 7, .int (nI 0)], [.int ((nI st) ||| (nI 1)), .ref 7], MW A B F sw, 0, 0)) 1 rfl ?_
    rw [bx_or]
    refine wp_go (f' := ((if ¬ (nI 0) = (nI 5) then 86 else 66), [.ref 7, .int (nI 0)], [], MW A B (upF F 4 (nI (st ||| 1))) sw, 0, 0)) 4 rfl ?_
    refine wp_ite (fun _ => ?_) (fun h9 => absurd (by decide : ¬ nI 0 = nI 5) h9)
    refine wp_go (f' := (88, [.ref 7, .int (nI 0)], [.int (nI 0), .ref 7], MW A B (upF F 4 (nI (st ||| 1))) sw, 0, 0)) 2 rfl ?_
    refine wp_call rfl rfl rfl (ev_up (ev_fill hC2 hR hE2 hQ (kind := 0) (by omega)) (by omega)) ?_
    refine wp_eq (f' := (91, [.ref 7, .int (nI 0)], [], MW (upA A 16 (bgA (ownC n nb ed 0) n 0 (A 16))) B (upF F 4 (nI (st ||| 1))) sw, 0, 0)) rfl ?_
    refine wp_go (f' := ((if ¬ (nI 0) = (nI 2) then 114 else 101), [.ref 7, .int (nI 0)], [.int (nI 0), .ref 15], MW (upA A 16 (bgA (ownC n nb ed 0) n 0 (A 16))) B (upF F 4 (nI (st ||| 1))) sw, 0, 0)) 6 rfl ?_
    refine wp_ite (fun _ => ?_) (fun h9 => absurd (by decide : ¬ nI 0 = nI 2) h9)
    refine wp_go (f' := (121, [.ref 7, .int (nI 0)], [.int (nI 0), .ref 8, .int (nI 0), .ref 7, .int (nI 0), .ref 15], MW (upA A 16 (bgA (ownC n nb ed 0) n 0 (A 16))) B (upF F 4 (nI (st ||| 1))) sw, 0, 0)) 5 rfl ?_
    refine wp_aald rfl rfl (by decide) (by decide) ?_
    refine wp_eq (f' := (122, [.ref 7, .int (nI 0)], [.ref 9, .int (nI 0), .ref 7, .int (nI 0), .ref 15], MW (upA A 16 (bgA (ownC n nb ed 0) n 0 (A 16))) B (upF F 4 (nI (st ||| 1))) sw, 0, 0)) rfl ?_
    refine wp_call rfl rfl rfl (ev_up (ev_layL0 (A := upA A 16 (bgA (ownC n nb ed 0) n 0 (A 16))) hC2 hR hE2 hQ hq (fun j hj => by show bgA _ _ _ _ j = _; rw [bgA_at hj, bg_bb hq hj])) (by omega)) ?_
    refine wp_eq (f' := (125, [.ref 7, .int (nI 0)], [.int (nI (bbN n nb 0 0)), .int (nI 0), .ref 15], MW (upA (upA A 16 (bgA (ownC n nb ed 0) n 0 (A 16))) 9 (layN n nb 0 (A 9)).2.2) B (upF F 4 (nI (st ||| 1))) sw, 0, 0)) rfl ?_
    refine wp_iast rfl rfl (by omega) (by decide) ?_
    refine wp_eq (f' := (126, [.ref 7, .int (nI 0)], [], MW (upA (upA (upA A 16 (bgA (ownC n nb ed 0) n 0 (A 16))) 9 (layN n nb 0 (A 9)).2.2) 15 (upd (A 15) 0 (nI (bbN n nb 0 0)))) B (upF F 4 (nI (st ||| 1))) sw, 0, 0)) rfl ?_
    exact wp_vret rfl
  · refine ⟨fun c hc => ?_, fun k hk hne => ?_⟩
    · rw [upA_ne (by omega), upA_ne (by omega), upA_ne (by omega)]
    · refine ⟨?_, ?_⟩
      · rw [upA_ne (by omega), upA_ne (by omega), upA_ne (by omega)]
      · exact pk_un hne
  · exact ⟨⟨A 9, rfl⟩, pk_us⟩
  · exact hH
  · exact hW
theorem lay_1 (hC : CI A F n nb) (hR : RI A n nb) (hZ : CZ A) {ed : Nat} (hE : F 1 = nI ed) (hQ : CEd n nb ed) (hH : ∃ h, HI A h) (hW : RW (A 11)) {st : Nat} (hS : F 4 = nI st) (hst : st < 64) (hq : CQ n nb ed 1) : ∃ A2 : Nat → Nat → Int32, mv_Wp xs Ls 16 4 false none mv_c32 (49, [.ref 7, .int (nI 1)], [], MW A B F sw, 0, 0) (none, MW A2 B (upF F 4 (nI (st ||| 2))) sw, 0, 0) ∧ FR A A2 1 ∧ KD A2 n nb ed 1 ∧ RI A2 n nb ∧ CZ A2 ∧ (∃ h, HI A2 h) ∧ RW (A2 11) := by
  have hn := hC.1
  have hp := pow10 hn
  have hp1 : 1 ≤ 2 ^ n := Nat.one_le_two_pow
  have hal := all_lt hn
  have hC2 : CI A (upF F 4 (nI (st ||| 2))) n nb := hC
  have hE2 : (upF F 4 (nI (st ||| 2))) 1 = nI ed := hE
  refine ⟨(upA (upA (upA A 16 (bgA (ownC n nb ed 1) n 1 (A 16))) 10 (layN n nb 1 (A 10)).2.2) 15 (upd (A 15) 1 (nI (bbN n nb 1 0)))), ?_, ?_, ?_, hR, hZ, ?_, ?_⟩
  · skip
    refine wp_go (f' := (54, [.ref 7, .int (nI 1)], [.int (F 4), .ref 7], MW A B F sw, 0, 0)) 3 rfl ?_
    rw [hS]
    refine wp_go (f' := (57, [.ref 7, .int (nI 1)], [.int ((nI 1) <<< ((nI 1) &&& 31)), .int (nI st), .ref 7], MW A B F sw, 0, 0)) 3 rfl ?_
    rw [(by decide : nI 1 <<< (nI 1 &&& 31) = nI 2)]
    refine wp_go (f' := (58, [.ref 7, .int (nI 1)], [.int ((nI st) ||| (nI 2)), .ref 7], MW A B F sw, 0, 0)) 1 rfl ?_
    rw [bx_or]
    refine wp_go (f' := ((if ¬ (nI 1) = (nI 5) then 86 else 66), [.ref 7, .int (nI 1)], [], MW A B (upF F 4 (nI (st ||| 2))) sw, 0, 0)) 4 rfl ?_
    refine wp_ite (fun _ => ?_) (fun h9 => absurd (by decide : ¬ nI 1 = nI 5) h9)
    refine wp_go (f' := (88, [.ref 7, .int (nI 1)], [.int (nI 1), .ref 7], MW A B (upF F 4 (nI (st ||| 2))) sw, 0, 0)) 2 rfl ?_
    refine wp_call rfl rfl rfl (ev_up (ev_fill hC2 hR hE2 hQ (kind := 1) (by omega)) (by omega)) ?_
    refine wp_eq (f' := (91, [.ref 7, .int (nI 1)], [], MW (upA A 16 (bgA (ownC n nb ed 1) n 1 (A 16))) B (upF F 4 (nI (st ||| 2))) sw, 0, 0)) rfl ?_
    refine wp_go (f' := ((if ¬ (nI 1) = (nI 2) then 114 else 101), [.ref 7, .int (nI 1)], [.int (nI 1), .ref 15], MW (upA A 16 (bgA (ownC n nb ed 1) n 1 (A 16))) B (upF F 4 (nI (st ||| 2))) sw, 0, 0)) 6 rfl ?_
    refine wp_ite (fun _ => ?_) (fun h9 => absurd (by decide : ¬ nI 1 = nI 2) h9)
    refine wp_go (f' := (121, [.ref 7, .int (nI 1)], [.int (nI 1), .ref 8, .int (nI 1), .ref 7, .int (nI 1), .ref 15], MW (upA A 16 (bgA (ownC n nb ed 1) n 1 (A 16))) B (upF F 4 (nI (st ||| 2))) sw, 0, 0)) 5 rfl ?_
    refine wp_aald rfl rfl (by decide) (by decide) ?_
    refine wp_eq (f' := (122, [.ref 7, .int (nI 1)], [.ref 10, .int (nI 1), .ref 7, .int (nI 1), .ref 15], MW (upA A 16 (bgA (ownC n nb ed 1) n 1 (A 16))) B (upF F 4 (nI (st ||| 2))) sw, 0, 0)) rfl ?_
    refine wp_call rfl rfl rfl (ev_up (ev_layL1 (A := upA A 16 (bgA (ownC n nb ed 1) n 1 (A 16))) hC2 hR hE2 hQ hq (fun j hj => by show bgA _ _ _ _ j = _; rw [bgA_at hj, bg_bb hq hj])) (by omega)) ?_
    refine wp_eq (f' := (125, [.ref 7, .int (nI 1)], [.int (nI (bbN n nb 1 0)), .int (nI 1), .ref 15], MW (upA (upA A 16 (bgA (ownC n nb ed 1) n 1 (A 16))) 10 (layN n nb 1 (A 10)).2.2) B (upF F 4 (nI (st ||| 2))) sw, 0, 0)) rfl ?_
    refine wp_iast rfl rfl (by omega) (by decide) ?_
    refine wp_eq (f' := (126, [.ref 7, .int (nI 1)], [], MW (upA (upA (upA A 16 (bgA (ownC n nb ed 1) n 1 (A 16))) 10 (layN n nb 1 (A 10)).2.2) 15 (upd (A 15) 1 (nI (bbN n nb 1 0)))) B (upF F 4 (nI (st ||| 2))) sw, 0, 0)) rfl ?_
    exact wp_vret rfl
  · refine ⟨fun c hc => ?_, fun k hk hne => ?_⟩
    · rw [upA_ne (by omega), upA_ne (by omega), upA_ne (by omega)]
    · refine ⟨?_, ?_⟩
      · rw [upA_ne (by omega), upA_ne (by omega), upA_ne (by omega)]
      · exact pk_un hne
  · exact ⟨⟨A 10, rfl⟩, pk_us⟩
  · exact hH
  · exact hW
theorem lay_2 (hC : CI A F n nb) (hR : RI A n nb) (hZ : CZ A) {ed : Nat} (hE : F 1 = nI ed) (hQ : CEd n nb ed) (hH : ∃ h, HI A h) (hW : RW (A 11)) {st : Nat} (hS : F 4 = nI st) (hst : st < 64) : ∃ A2 : Nat → Nat → Int32, mv_Wp xs Ls 16 4 false none mv_c32 (49, [.ref 7, .int (nI 2)], [], MW A B F sw, 0, 0) (none, MW A2 B (upF F 4 (nI (st ||| 4))) sw, 0, 0) ∧ FR A A2 2 ∧ KD A2 n nb ed 2 ∧ RI A2 n nb ∧ CZ A2 ∧ (∃ h, HI A2 h) ∧ RW (A2 11) := by
  have hn := hC.1
  have hp := pow10 hn
  have hp1 : 1 ≤ 2 ^ n := Nat.one_le_two_pow
  have hal := all_lt hn
  have hC2 : CI A (upF F 4 (nI (st ||| 4))) n nb := hC
  have hE2 : (upF F 4 (nI (st ||| 4))) 1 = nI ed := hE
  obtain ⟨r, f, hr, h11⟩ := hW
  refine ⟨(upA (upA (upA A 16 (bgA (ownC n nb ed 2) n 2 (A 16))) 11 (rowT (bandW n nb ed n (bgN (ownC n nb ed 2) n 2 0) r).2 10 f)) 15 (upd (A 15) 2 (nI (bandW n nb ed n (bgN (ownC n nb ed 2) n 2 0) r).1))), ?_, ?_, ?_, hR, hZ, ?_, ?_⟩
  · skip
    refine wp_go (f' := (54, [.ref 7, .int (nI 2)], [.int (F 4), .ref 7], MW A B F sw, 0, 0)) 3 rfl ?_
    rw [hS]
    refine wp_go (f' := (57, [.ref 7, .int (nI 2)], [.int ((nI 1) <<< ((nI 2) &&& 31)), .int (nI st), .ref 7], MW A B F sw, 0, 0)) 3 rfl ?_
    rw [(by decide : nI 1 <<< (nI 2 &&& 31) = nI 4)]
    refine wp_go (f' := (58, [.ref 7, .int (nI 2)], [.int ((nI st) ||| (nI 4)), .ref 7], MW A B F sw, 0, 0)) 1 rfl ?_
    rw [bx_or]
    refine wp_go (f' := ((if ¬ (nI 2) = (nI 5) then 86 else 66), [.ref 7, .int (nI 2)], [], MW A B (upF F 4 (nI (st ||| 4))) sw, 0, 0)) 4 rfl ?_
    refine wp_ite (fun _ => ?_) (fun h9 => absurd (by decide : ¬ nI 2 = nI 5) h9)
    refine wp_go (f' := (88, [.ref 7, .int (nI 2)], [.int (nI 2), .ref 7], MW A B (upF F 4 (nI (st ||| 4))) sw, 0, 0)) 2 rfl ?_
    refine wp_call rfl rfl rfl (ev_up (ev_fill hC2 hR hE2 hQ (kind := 2) (by omega)) (by omega)) ?_
    refine wp_eq (f' := (91, [.ref 7, .int (nI 2)], [], MW (upA A 16 (bgA (ownC n nb ed 2) n 2 (A 16))) B (upF F 4 (nI (st ||| 4))) sw, 0, 0)) rfl ?_
    refine wp_go (f' := ((if ¬ (nI 2) = (nI 2) then 114 else 101), [.ref 7, .int (nI 2)], [.int (nI 2), .ref 15], MW (upA A 16 (bgA (ownC n nb ed 2) n 2 (A 16))) B (upF F 4 (nI (st ||| 4))) sw, 0, 0)) 6 rfl ?_
    refine wp_ite (fun h9 => absurd h9 (fun h => h rfl : ¬ ¬ nI 2 = nI 2)) (fun _ => ?_)
    refine wp_go (f' := (107, [.ref 7, .int (nI 2)], [.int (nI 2), .ref 8, .ref 7, .int (nI 2), .ref 15], MW (upA A 16 (bgA (ownC n nb ed 2) n 2 (A 16))) B (upF F 4 (nI (st ||| 4))) sw, 0, 0)) 4 rfl ?_
    refine wp_aald rfl rfl (by decide) (by decide) ?_
    refine wp_eq (f' := (108, [.ref 7, .int (nI 2)], [.ref 11, .ref 7, .int (nI 2), .ref 15], MW (upA A 16 (bgA (ownC n nb ed 2) n 2 (A 16))) B (upF F 4 (nI (st ||| 4))) sw, 0, 0)) rfl ?_
    refine wp_call rfl rfl rfl (ev_up (ev_layBand1 (A := upA A 16 (bgA (ownC n nb ed 2) n 2 (A 16))) hC2 hR hE2 hQ (fun j hj => bgA_at hj) (r := r) (f := f) hr h11) (by omega)) ?_
    refine wp_eq (f' := (111, [.ref 7, .int (nI 2)], [.int (nI (bandW n nb ed n (bgN (ownC n nb ed 2) n 2 0) r).1), .int (nI 2), .ref 15], MW (upA (upA A 16 (bgA (ownC n nb ed 2) n 2 (A 16))) 11 (rowT (bandW n nb ed n (bgN (ownC n nb ed 2) n 2 0) r).2 10 f)) B (upF F 4 (nI (st ||| 4))) sw, 0, 0)) rfl ?_
    refine wp_go (f' := (125, [.ref 7, .int (nI 2)], [.int (nI (bandW n nb ed n (bgN (ownC n nb ed 2) n 2 0) r).1), .int (nI 2), .ref 15], MW (upA (upA A 16 (bgA (ownC n nb ed 2) n 2 (A 16))) 11 (rowT (bandW n nb ed n (bgN (ownC n nb ed 2) n 2 0) r).2 10 f)) B (upF F 4 (nI (st ||| 4))) sw, 0, 0)) 1 rfl ?_
    refine wp_iast rfl rfl (by omega) (by decide) ?_
    refine wp_eq (f' := (126, [.ref 7, .int (nI 2)], [], MW (upA (upA (upA A 16 (bgA (ownC n nb ed 2) n 2 (A 16))) 11 (rowT (bandW n nb ed n (bgN (ownC n nb ed 2) n 2 0) r).2 10 f)) 15 (upd (A 15) 2 (nI (bandW n nb ed n (bgN (ownC n nb ed 2) n 2 0) r).1))) B (upF F 4 (nI (st ||| 4))) sw, 0, 0)) rfl ?_
    exact wp_vret rfl
  · refine ⟨fun c hc => ?_, fun k hk hne => ?_⟩
    · rw [upA_ne (by omega), upA_ne (by omega), upA_ne (by omega)]
    · refine ⟨?_, ?_⟩
      · rw [upA_ne (by omega), upA_ne (by omega), upA_ne (by omega)]
      · exact pk_un hne
  · exact ⟨r, f, hr, rfl, pk_us⟩
  · exact hH
  · exact ⟨_, f, bandW_lt hn _ _ r hr, rfl⟩
theorem lay_3 (hC : CI A F n nb) (hR : RI A n nb) (hZ : CZ A) {ed : Nat} (hE : F 1 = nI ed) (hQ : CEd n nb ed) (hH : ∃ h, HI A h) (hW : RW (A 11)) {st : Nat} (hS : F 4 = nI st) (hst : st < 64) (hq : CQ n nb ed 3) : ∃ A2 : Nat → Nat → Int32, mv_Wp xs Ls 16 4 false none mv_c32 (49, [.ref 7, .int (nI 3)], [], MW A B F sw, 0, 0) (none, MW A2 B (upF F 4 (nI (st ||| 8))) sw, 0, 0) ∧ FR A A2 3 ∧ KD A2 n nb ed 3 ∧ RI A2 n nb ∧ CZ A2 ∧ (∃ h, HI A2 h) ∧ RW (A2 11) := by
  have hn := hC.1
  have hp := pow10 hn
  have hp1 : 1 ≤ 2 ^ n := Nat.one_le_two_pow
  have hal := all_lt hn
  have hC2 : CI A (upF F 4 (nI (st ||| 8))) n nb := hC
  have hE2 : (upF F 4 (nI (st ||| 8))) 1 = nI ed := hE
  refine ⟨(upA (upA (upA A 16 (bgA (ownC n nb ed 3) n 3 (A 16))) 12 (layN n nb 3 (A 12)).2.2) 15 (upd (A 15) 3 (nI (bbN n nb 3 0)))), ?_, ?_, ?_, hR, hZ, ?_, ?_⟩
  · skip
    refine wp_go (f' := (54, [.ref 7, .int (nI 3)], [.int (F 4), .ref 7], MW A B F sw, 0, 0)) 3 rfl ?_
    rw [hS]
    refine wp_go (f' := (57, [.ref 7, .int (nI 3)], [.int ((nI 1) <<< ((nI 3) &&& 31)), .int (nI st), .ref 7], MW A B F sw, 0, 0)) 3 rfl ?_
    rw [(by decide : nI 1 <<< (nI 3 &&& 31) = nI 8)]
    refine wp_go (f' := (58, [.ref 7, .int (nI 3)], [.int ((nI st) ||| (nI 8)), .ref 7], MW A B F sw, 0, 0)) 1 rfl ?_
    rw [bx_or]
    refine wp_go (f' := ((if ¬ (nI 3) = (nI 5) then 86 else 66), [.ref 7, .int (nI 3)], [], MW A B (upF F 4 (nI (st ||| 8))) sw, 0, 0)) 4 rfl ?_
    refine wp_ite (fun _ => ?_) (fun h9 => absurd (by decide : ¬ nI 3 = nI 5) h9)
    refine wp_go (f' := (88, [.ref 7, .int (nI 3)], [.int (nI 3), .ref 7], MW A B (upF F 4 (nI (st ||| 8))) sw, 0, 0)) 2 rfl ?_
    refine wp_call rfl rfl rfl (ev_up (ev_fill hC2 hR hE2 hQ (kind := 3) (by omega)) (by omega)) ?_
    refine wp_eq (f' := (91, [.ref 7, .int (nI 3)], [], MW (upA A 16 (bgA (ownC n nb ed 3) n 3 (A 16))) B (upF F 4 (nI (st ||| 8))) sw, 0, 0)) rfl ?_
    refine wp_go (f' := ((if ¬ (nI 3) = (nI 2) then 114 else 101), [.ref 7, .int (nI 3)], [.int (nI 3), .ref 15], MW (upA A 16 (bgA (ownC n nb ed 3) n 3 (A 16))) B (upF F 4 (nI (st ||| 8))) sw, 0, 0)) 6 rfl ?_
    refine wp_ite (fun _ => ?_) (fun h9 => absurd (by decide : ¬ nI 3 = nI 2) h9)
    refine wp_go (f' := (121, [.ref 7, .int (nI 3)], [.int (nI 3), .ref 8, .int (nI 3), .ref 7, .int (nI 3), .ref 15], MW (upA A 16 (bgA (ownC n nb ed 3) n 3 (A 16))) B (upF F 4 (nI (st ||| 8))) sw, 0, 0)) 5 rfl ?_
    refine wp_aald rfl rfl (by decide) (by decide) ?_
    refine wp_eq (f' := (122, [.ref 7, .int (nI 3)], [.ref 12, .int (nI 3), .ref 7, .int (nI 3), .ref 15], MW (upA A 16 (bgA (ownC n nb ed 3) n 3 (A 16))) B (upF F 4 (nI (st ||| 8))) sw, 0, 0)) rfl ?_
    refine wp_call rfl rfl rfl (ev_up (ev_layL3 (A := upA A 16 (bgA (ownC n nb ed 3) n 3 (A 16))) hC2 hR hE2 hQ hq (fun j hj => by show bgA _ _ _ _ j = _; rw [bgA_at hj, bg_bb hq hj])) (by omega)) ?_
    refine wp_eq (f' := (125, [.ref 7, .int (nI 3)], [.int (nI (bbN n nb 3 0)), .int (nI 3), .ref 15], MW (upA (upA A 16 (bgA (ownC n nb ed 3) n 3 (A 16))) 12 (layN n nb 3 (A 12)).2.2) B (upF F 4 (nI (st ||| 8))) sw, 0, 0)) rfl ?_
    refine wp_iast rfl rfl (by omega) (by decide) ?_
    refine wp_eq (f' := (126, [.ref 7, .int (nI 3)], [], MW (upA (upA (upA A 16 (bgA (ownC n nb ed 3) n 3 (A 16))) 12 (layN n nb 3 (A 12)).2.2) 15 (upd (A 15) 3 (nI (bbN n nb 3 0)))) B (upF F 4 (nI (st ||| 8))) sw, 0, 0)) rfl ?_
    exact wp_vret rfl
  · refine ⟨fun c hc => ?_, fun k hk hne => ?_⟩
    · rw [upA_ne (by omega), upA_ne (by omega), upA_ne (by omega)]
    · refine ⟨?_, ?_⟩
      · rw [upA_ne (by omega), upA_ne (by omega), upA_ne (by omega)]
      · exact pk_un hne
  · exact ⟨⟨A 12, rfl⟩, pk_us⟩
  · exact hH
  · exact hW
theorem lay_4 (hC : CI A F n nb) (hR : RI A n nb) (hZ : CZ A) {ed : Nat} (hE : F 1 = nI ed) (hQ : CEd n nb ed) (hH : ∃ h, HI A h) (hW : RW (A 11)) {st : Nat} (hS : F 4 = nI st) (hst : st < 64) (hq : CQ n nb ed 4) : ∃ A2 : Nat → Nat → Int32, mv_Wp xs Ls 16 4 false none mv_c32 (49, [.ref 7, .int (nI 4)], [], MW A B F sw, 0, 0) (none, MW A2 B (upF F 4 (nI (st ||| 16))) sw, 0, 0) ∧ FR A A2 4 ∧ KD A2 n nb ed 4 ∧ RI A2 n nb ∧ CZ A2 ∧ (∃ h, HI A2 h) ∧ RW (A2 11) := by
  have hn := hC.1
  have hp := pow10 hn
  have hp1 : 1 ≤ 2 ^ n := Nat.one_le_two_pow
  have hal := all_lt hn
  have hC2 : CI A (upF F 4 (nI (st ||| 16))) n nb := hC
  have hE2 : (upF F 4 (nI (st ||| 16))) 1 = nI ed := hE
  refine ⟨(upA (upA (upA A 16 (bgA (ownC n nb ed 4) n 4 (A 16))) 13 (layN n nb 4 (A 13)).2.2) 15 (upd (A 15) 4 (nI (bbN n nb 4 0)))), ?_, ?_, ?_, hR, hZ, ?_, ?_⟩
  · skip
    refine wp_go (f' := (54, [.ref 7, .int (nI 4)], [.int (F 4), .ref 7], MW A B F sw, 0, 0)) 3 rfl ?_
    rw [hS]
    refine wp_go (f' := (57, [.ref 7, .int (nI 4)], [.int ((nI 1) <<< ((nI 4) &&& 31)), .int (nI st), .ref 7], MW A B F sw, 0, 0)) 3 rfl ?_
    rw [(by decide : nI 1 <<< (nI 4 &&& 31) = nI 16)]
    refine wp_go (f' := (58, [.ref 7, .int (nI 4)], [.int ((nI st) ||| (nI 16)), .ref 7], MW A B F sw, 0, 0)) 1 rfl ?_
    rw [bx_or]
    refine wp_go (f' := ((if ¬ (nI 4) = (nI 5) then 86 else 66), [.ref 7, .int (nI 4)], [], MW A B (upF F 4 (nI (st ||| 16))) sw, 0, 0)) 4 rfl ?_
    refine wp_ite (fun _ => ?_) (fun h9 => absurd (by decide : ¬ nI 4 = nI 5) h9)
    refine wp_go (f' := (88, [.ref 7, .int (nI 4)], [.int (nI 4), .ref 7], MW A B (upF F 4 (nI (st ||| 16))) sw, 0, 0)) 2 rfl ?_
    refine wp_call rfl rfl rfl (ev_up (ev_fill hC2 hR hE2 hQ (kind := 4) (by omega)) (by omega)) ?_
    refine wp_eq (f' := (91, [.ref 7, .int (nI 4)], [], MW (upA A 16 (bgA (ownC n nb ed 4) n 4 (A 16))) B (upF F 4 (nI (st ||| 16))) sw, 0, 0)) rfl ?_
    refine wp_go (f' := ((if ¬ (nI 4) = (nI 2) then 114 else 101), [.ref 7, .int (nI 4)], [.int (nI 4), .ref 15], MW (upA A 16 (bgA (ownC n nb ed 4) n 4 (A 16))) B (upF F 4 (nI (st ||| 16))) sw, 0, 0)) 6 rfl ?_
    refine wp_ite (fun _ => ?_) (fun h9 => absurd (by decide : ¬ nI 4 = nI 2) h9)
    refine wp_go (f' := (121, [.ref 7, .int (nI 4)], [.int (nI 4), .ref 8, .int (nI 4), .ref 7, .int (nI 4), .ref 15], MW (upA A 16 (bgA (ownC n nb ed 4) n 4 (A 16))) B (upF F 4 (nI (st ||| 16))) sw, 0, 0)) 5 rfl ?_
    refine wp_aald rfl rfl (by decide) (by decide) ?_
    refine wp_eq (f' := (122, [.ref 7, .int (nI 4)], [.ref 13, .int (nI 4), .ref 7, .int (nI 4), .ref 15], MW (upA A 16 (bgA (ownC n nb ed 4) n 4 (A 16))) B (upF F 4 (nI (st ||| 16))) sw, 0, 0)) rfl ?_
    refine wp_call rfl rfl rfl (ev_up (ev_layL4 (A := upA A 16 (bgA (ownC n nb ed 4) n 4 (A 16))) hC2 hR hE2 hQ hq (fun j hj => by show bgA _ _ _ _ j = _; rw [bgA_at hj, bg_bb hq hj])) (by omega)) ?_
    refine wp_eq (f' := (125, [.ref 7, .int (nI 4)], [.int (nI (bbN n nb 4 0)), .int (nI 4), .ref 15], MW (upA (upA A 16 (bgA (ownC n nb ed 4) n 4 (A 16))) 13 (layN n nb 4 (A 13)).2.2) B (upF F 4 (nI (st ||| 16))) sw, 0, 0)) rfl ?_
    refine wp_iast rfl rfl (by omega) (by decide) ?_
    refine wp_eq (f' := (126, [.ref 7, .int (nI 4)], [], MW (upA (upA (upA A 16 (bgA (ownC n nb ed 4) n 4 (A 16))) 13 (layN n nb 4 (A 13)).2.2) 15 (upd (A 15) 4 (nI (bbN n nb 4 0)))) B (upF F 4 (nI (st ||| 16))) sw, 0, 0)) rfl ?_
    exact wp_vret rfl
  · refine ⟨fun c hc => ?_, fun k hk hne => ?_⟩
    · rw [upA_ne (by omega), upA_ne (by omega), upA_ne (by omega)]
    · refine ⟨?_, ?_⟩
      · rw [upA_ne (by omega), upA_ne (by omega), upA_ne (by omega)]
      · exact pk_un hne
  · exact ⟨⟨A 13, rfl⟩, pk_us⟩
  · exact hH
  · exact hW
theorem lay_5 (hC : CI A F n nb) (hR : RI A n nb) (hZ : CZ A) {ed : Nat} (hE : F 1 = nI ed) (hQ : CEd n nb ed) (hH : ∃ h, HI A h) (hW : RW (A 11)) {st : Nat} (hS : F 4 = nI st) (hst : st < 64) : ∃ A2 : Nat → Nat → Int32, mv_Wp xs Ls 16 4 false none mv_c32 (49, [.ref 7, .int (nI 5)], [], MW A B F sw, 0, 0) (none, MW A2 B (upF F 4 (nI (st ||| 32))) sw, 0, 0) ∧ FR A A2 5 ∧ KD A2 n nb ed 5 ∧ RI A2 n nb ∧ CZ A2 ∧ (∃ h, HI A2 h) ∧ RW (A2 11) := by
  have hn := hC.1
  have hp := pow10 hn
  have hp1 : 1 ≤ 2 ^ n := Nat.one_le_two_pow
  have hal := all_lt hn
  have hC2 : CI A (upF F 4 (nI (st ||| 32))) n nb := hC
  have hE2 : (upF F 4 (nI (st ||| 32))) 1 = nI ed := hE
  obtain ⟨h, hI⟩ := hH
  obtain ⟨g18, g19, g20, g21, g22, h3, hI3, hev⟩ := ev_hLay (xs := xs) (Ls := Ls) (B := B) (sw := sw) hC2 hR hI
  refine ⟨(upA (upA (upA (upA (upA (upA (upA A 18 g18) 19 g19) 20 g20) 21 g21) 22 g22) 14 (hayN n nb (A 14)).2.2) 15 (upd (A 15) 5 (nI (hgoN n nb)))), ?_, ?_, ?_, hR, hZ, ?_, ?_⟩
  · skip
    refine wp_go (f' := (54, [.ref 7, .int (nI 5)], [.int (F 4), .ref 7], MW A B F sw, 0, 0)) 3 rfl ?_
    rw [hS]
    refine wp_go (f' := (57, [.ref 7, .int (nI 5)], [.int ((nI 1) <<< ((nI 5) &&& 31)), .int (nI st), .ref 7], MW A B F sw, 0, 0)) 3 rfl ?_
    rw [(by decide : nI 1 <<< (nI 5 &&& 31) = nI 32)]
    refine wp_go (f' := (58, [.ref 7, .int (nI 5)], [.int ((nI st) ||| (nI 32)), .ref 7], MW A B F sw, 0, 0)) 1 rfl ?_
    rw [bx_or]
    refine wp_go (f' := ((if ¬ (nI 5) = (nI 5) then 86 else 66), [.ref 7, .int (nI 5)], [], MW A B (upF F 4 (nI (st ||| 32))) sw, 0, 0)) 4 rfl ?_
    refine wp_ite (fun h9 => absurd h9 (fun h => h rfl : ¬ ¬ nI 5 = nI 5)) (fun _ => ?_)
    refine wp_go (f' := (80, [.ref 7, .int (nI 5)], [.int (nI 5), .ref 8, .ref 17, .int (nI 5), .ref 15], MW A B (upF F 4 (nI (st ||| 32))) sw, 0, 0)) 8 rfl ?_
    refine wp_aald rfl rfl (by decide) (by decide) ?_
    refine wp_eq (f' := (81, [.ref 7, .int (nI 5)], [.ref 14, .ref 17, .int (nI 5), .ref 15], MW A B (upF F 4 (nI (st ||| 32))) sw, 0, 0)) rfl ?_
    refine wp_call rfl rfl rfl (ev_up hev (by omega)) ?_
    refine wp_eq (f' := (84, [.ref 7, .int (nI 5)], [.int (nI (hgoN n nb)), .int (nI 5), .ref 15], MW (upA (upA (upA (upA (upA (upA A 18 g18) 19 g19) 20 g20) 21 g21) 22 g22) 14 (hayN n nb (A 14)).2.2) B (upF F 4 (nI (st ||| 32))) sw, 0, 0)) rfl ?_
    refine wp_iast rfl rfl (by omega) (by decide) ?_
    refine wp_eq (f' := (85, [.ref 7, .int (nI 5)], [], MW (upA (upA (upA (upA (upA (upA (upA A 18 g18) 19 g19) 20 g20) 21 g21) 22 g22) 14 (hayN n nb (A 14)).2.2) 15 (upd (A 15) 5 (nI (hgoN n nb)))) B (upF F 4 (nI (st ||| 32))) sw, 0, 0)) rfl ?_
    exact wp_vret rfl
  · refine ⟨fun c hc => ?_, fun k hk hne => ?_⟩
    · rw [upA_ne (by omega), upA_ne (by omega), upA_ne (by omega), upA_ne (by omega), upA_ne (by omega), upA_ne (by omega), upA_ne (by omega)]
    · refine ⟨?_, ?_⟩
      · rw [upA_ne (by omega), upA_ne (by omega), upA_ne (by omega), upA_ne (by omega), upA_ne (by omega), upA_ne (by omega), upA_ne (by omega)]
      · exact pk_un hne
  · exact ⟨⟨A 14, rfl⟩, pk_us⟩
  · exact ⟨h3, hI3⟩
  · exact hW
end CC
