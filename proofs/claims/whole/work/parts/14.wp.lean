/-! HOW THE SMALL MACHINE IS WALKED. Wp: from this frame the run ends with r; Ev: this call ends with r (with enough fuel, at depth d). -/
def mv_Wp (xs : Nat → Int32) (Ls d cls : Nat) (ini : Bool) (ret : Option FieldType) (code : List (Nat × Instr × Nat)) (f : mv_F) (r : mv_R) : Prop := ∃ N0 : Nat, ∀ N n : Nat, N0 ≤ N → N0 ≤ n → mv_run cls ini ret xs Ls (mv_call xs Ls N d) code n f = some r
def mv_Ev (xs : Nat → Int32) (Ls d j : Nat) (as : List Value) (w : mv_W) (r : mv_R) : Prop := ∃ N0 : Nat, ∀ N : Nat, N0 ≤ N → mv_call xs Ls N d j as w = some r
def mv_gos (cls : Nat) (ini : Bool) (xs : Nat → Int32) (Ls : Nat) (code : List (Nat × Instr × Nat)) : Nat → mv_F → Option mv_F
  | 0, f => some f
  | n + 1, f => match mv_get code f.1 with
    | some (i, len) => match mv_one cls ini xs Ls i len f with
      | some f' => mv_gos cls ini xs Ls code n f'
      | none => none
    | none => none
/-- a call: which method, its arguments, what stays on the stack -/
def mv_chk (j : Nat) (as rest : List Value) : Option (Nat × List Value × List Value) := match Nat.ble ((rest.map fun v => v.category).sum) 8 with
  | true => some (j, as, rest)
  | false => none
def mv_askd (kd cls x : Nat) (st : List Value) (w : mv_W) : Option (Nat × List Value × List Value) :=
  match (match mv_l2 mv_mths cls x with
    | some j => some j
    | none => mv_l2 mv_nest cls x) with
  | some j => match mv_prog[j]? with
    | some M => match Nat.beq M.2.2.2.2.2.1 kd with
      | true => match Nat.beq (st.take M.2.2.2.2.2.2).length M.2.2.2.2.2.2 with
        | false => none
        | true => match M.2.2.2.2.2.1, st.drop M.2.2.2.2.2.2 with
          | 0, rest => mv_chk j (st.take M.2.2.2.2.2.2).reverse rest
          | 1, .ref a :: rest => match w[a]? with
            | some (.inr (c', _)) => match Nat.beq c' M.1 with
              | true => mv_chk j (.ref a :: (st.take M.2.2.2.2.2.2).reverse) rest
              | false => none
            | _ => none
          | 2, .ref a :: rest => mv_chk j (.ref a :: (st.take M.2.2.2.2.2.2).reverse) rest
          | _, _ => none
      | false => none
    | none => none
  | none => none
def mv_ask (cls : Nat) (i : Instr) (n : Nat) (st : List Value) (w : mv_W) : Option (Nat × List Value × List Value) := match i, n with
  | .invokevirtual x, 3 => mv_askd 1 cls x st w
  | .invokestatic x, 3 => mv_askd 0 cls x st w
  | .invokespecial x, 3 => match mv_l1 mv_objs cls x with
    | true => none
    | false => mv_askd 2 cls x st w
  | _, _ => none
theorem mv_chk_ok {j j0 : Nat} {as as0 rest rest0 : List Value} (h : mv_chk j0 as0 rest0 = some (j, as, rest)) : j0 = j ∧ as0 = as ∧ rest0 = rest ∧ Nat.ble ((rest.map fun v => v.category).sum) 8 = true := by
  unfold mv_chk at h
  split at h
  · rename_i hb; cases h; exact ⟨rfl, rfl, rfl, hb⟩
  · cases h
theorem mv_ask2_ok {call : mv_C} {kd j1 j dc dk : Nat} {st as rest : List Value} {w w' : mv_W} {v : Option Value} (hc : call j as w = some (v, w', dc, dk)) (h : (match mv_prog[j1]? with
    | some M => match Nat.beq M.2.2.2.2.2.1 kd with
      | true => match Nat.beq (st.take M.2.2.2.2.2.2).length M.2.2.2.2.2.2 with
        | false => none
        | true => match M.2.2.2.2.2.1, st.drop M.2.2.2.2.2.2 with
          | 0, rest => mv_chk j1 (st.take M.2.2.2.2.2.2).reverse rest
          | 1, .ref a :: rest => match w[a]? with
            | some (.inr (c', _)) => match Nat.beq c' M.1 with
              | true => mv_chk j1 (.ref a :: (st.take M.2.2.2.2.2.2).reverse) rest
              | false => none
            | _ => none
          | 2, .ref a :: rest => mv_chk j1 (.ref a :: (st.take M.2.2.2.2.2.2).reverse) rest
          | _, _ => none
      | false => none
    | none => none) = some (j, as, rest)) : (match mv_prog[j1]? with
    | some M => match Nat.beq M.2.2.2.2.2.1 kd with
      | true => mv_do call j1 M st w
      | false => none
    | none => none) = some (v.toList ++ rest, w', dc, dk) := by
  have hout : ∀ {j0 : Nat} {as0 rest0 : List Value}, mv_chk j0 as0 rest0 = some (j, as, rest) → mv_out rest0 (call j0 as0 w) = some (v.toList ++ rest, w', dc, dk) := by
    intro j0 as0 rest0 h
    obtain ⟨rfl, rfl, rfl, hb⟩ := mv_chk_ok h
    unfold mv_out
    rw [hc]
    dsimp only
    rw [hb]
  cases hM : mv_prog[j1]? with
  | none => rw [hM] at h; cases h
  | some M =>
    rw [hM] at h
    dsimp only at h ⊢
    cases hk : Nat.beq M.2.2.2.2.2.1 kd with
    | false => rw [hk] at h; cases h
    | true =>
      rw [hk] at h
      dsimp only at h ⊢
      unfold mv_do
      cases hl : Nat.beq (st.take M.2.2.2.2.2.2).length M.2.2.2.2.2.2 with
      | false => rw [hl] at h; cases h
      | true =>
        rw [hl] at h
        dsimp only at h ⊢
        split at h
        · rename_i hk0
          rw [hk0]
          exact hout h
        · rename_i hk0 hdr
          rw [hk0, hdr]
          try dsimp only
          split at h
          · rename_i hw
            try rw [hw]
            try dsimp only
            split at h
            · rename_i hcc
              simp only [hw, hcc]
              exact hout h
            · cases h
          · cases h
        · rename_i hk0 hdr
          rw [hk0, hdr]
          exact hout h
        · cases h
theorem mv_askd_ok {call : mv_C} {kd cls x j dc dk : Nat} {st as rest : List Value} {w w' : mv_W} {v : Option Value} (h : mv_askd kd cls x st w = some (j, as, rest)) (hc : call j as w = some (v, w', dc, dk)) : mv_lnk kd call cls x st w = some (v.toList ++ rest, w', dc, dk) := by
  unfold mv_askd at h
  unfold mv_lnk
  cases hm : mv_l2 mv_mths cls x with
  | some j1 =>
    rw [hm] at h
    exact mv_ask2_ok hc h
  | none =>
    rw [hm] at h
    dsimp only at h ⊢
    cases hn : mv_l2 mv_nest cls x with
    | none => rw [hn] at h; cases h
    | some j1 =>
      rw [hn] at h
      exact mv_ask2_ok hc h
/-! more depth does no harm -/
def mv_Le (a b : mv_C) : Prop := ∀ j as w r, a j as w = some r → b j as w = some r
theorem mv_out_le {rest : List Value} {a b : Option mv_R} {q : List Value × mv_W × Nat × Nat} (h : ∀ r, a = some r → b = some r) (hq : mv_out rest a = some q) : mv_out rest b = some q := by
  cases ha : a with
  | none => rw [ha] at hq; cases hq
  | some r => rw [ha] at hq; rw [h r ha]; exact hq
theorem mv_lnk_le {a b : mv_C} (hab : mv_Le a b) {kd cls x : Nat} {st : List Value} {w : mv_W} {q : List Value × mv_W × Nat × Nat} (h : mv_lnk kd a cls x st w = some q) : mv_lnk kd b cls x st w = some q := by
  unfold mv_lnk at h ⊢
  split at h
  · rename_i j1 hj1
    try rw [hj1]
    try dsimp only
    split at h
    · rename_i M hM
      try rw [hM]
      try dsimp only
      split at h
      · rename_i hk
        try rw [hk]
        try dsimp only
        unfold mv_do at h ⊢
        split at h
        · cases h
        · rename_i hl
          try rw [hl]
          try dsimp only
          split at h
          · exact mv_out_le (hab _ _ _) h
          · split at h
            · rename_i hw
              split at h
              · rename_i hcc
                try rw [hw]
                try dsimp only
                try rw [hcc]
                exact mv_out_le (hab _ _ _) h
              · cases h
            · cases h
          · exact mv_out_le (hab _ _ _) h
          · cases h
      · cases h
    · cases h
  · cases h
theorem mv_inv_le {a b : mv_C} (hab : mv_Le a b) {cls : Nat} {i : Instr} {n : Nat} {st : List Value} {w : mv_W} {q : List Value × mv_W × Nat × Nat} (h : mv_inv cls a i n st w = some q) : mv_inv cls b i n st w = some q := by
  unfold mv_inv at h ⊢
  split at h
  · exact mv_lnk_le hab h
  · exact mv_lnk_le hab h
  · split at h
    · exact h
    · cases h
    · exact mv_lnk_le hab h
  · cases h
theorem mv_inv_plain {a b : mv_C} {cls : Nat} {i : Instr} {n : Nat} {st : List Value} {w : mv_W} {ret : Option FieldType} {r : Option Value} (h : mv_ret ret i n st = some r) : mv_inv cls a i n st w = none := by
  unfold mv_ret at h
  split at h
  all_goals first | rfl | cases h
theorem mv_run_le {a b : mv_C} (hab : mv_Le a b) {xs : Nat → Int32} {Ls cls : Nat} {ini : Bool} {ret : Option FieldType} {code : List (Nat × Instr × Nat)} : ∀ (n : Nat) (f : mv_F) (r : mv_R), mv_run cls ini ret xs Ls a code n f = some r → mv_run cls ini ret xs Ls b code n f = some r
  | 0, f, r, h => by cases h
  | n + 1, f, r, h => by
    unfold mv_run at h ⊢
    split at h
    · cases h
    · rename_i i len hg
      try rw [hg]
      try dsimp only
      obtain ⟨pc, L, st, w, c, k⟩ := f
      unfold mv_step at h ⊢
      cases ho : mv_one cls ini xs Ls i len (pc, L, st, w, c, k) with
      | some f' =>
        rw [ho] at h
        exact mv_run_le hab n f' r h
      | none =>
        rw [ho] at h
        dsimp only at h ⊢
        cases hi : mv_inv cls a i len st w with
        | some q =>
          rw [hi] at h
          rw [mv_inv_le hab hi]
          obtain ⟨q1, q2, q3, q4⟩ := q
          exact mv_run_le hab n _ r h
        | none =>
          rw [hi] at h
          dsimp only at h
          cases hr : mv_ret ret i len st with
          | none => rw [hr] at h; cases h
          | some v =>
            rw [hr] at h
            rw [mv_inv_plain (a := b) (b := b) hr]
            try dsimp only
            try rw [hr]
            exact h
theorem mv_call_le (xs : Nat → Int32) (Ls N : Nat) : ∀ d, mv_Le (mv_call xs Ls N d) (mv_call xs Ls N (d + 1))
  | 0 => fun j as w r h => by cases h
  | d + 1 => fun j as w r h => by
    unfold mv_call at h ⊢
    split at h
    · cases h
    · rename_i M hM
      try rw [hM]
      try dsimp only
      split at h
      · rename_i hl
        try rw [hl]
        exact mv_run_le (mv_call_le xs Ls N d) _ _ _ h
      · cases h
theorem mv_call_up {xs : Nat → Int32} {Ls d e : Nat} (N : Nat) (h : d ≤ e) : mv_Le (mv_call xs Ls N d) (mv_call xs Ls N e) := by
  induction e with
  | zero => cases (Nat.le_zero.mp h); exact fun _ _ _ _ h => h
  | succ e ih =>
    by_cases hde : d = e + 1
    · subst hde; exact fun _ _ _ _ h => h
    · exact fun j as w r h2 => mv_call_le xs Ls N e j as w r (ih (by omega) j as w r h2)
section WP
variable {xs : Nat → Int32} {Ls d cls : Nat} {ini : Bool} {ret : Option FieldType} {code : List (Nat × Instr × Nat)}
theorem mv_step_of_one {call : mv_C} {i : Instr} {n : Nat} {f f' : mv_F} (h : mv_one cls ini xs Ls i n f = some f') : mv_step cls ini ret xs Ls call i n f = some (.inl f') := by
  unfold mv_step
  try rw [h]
theorem wp_go (n : Nat) {f f' : mv_F} {r : mv_R} (h : mv_gos cls ini xs Ls code n f = some f') (k : mv_Wp xs Ls d cls ini ret code f' r) : mv_Wp xs Ls d cls ini ret code f r := by
  induction n generalizing f with
  | zero => cases h; exact k
  | succ n ih =>
    unfold mv_gos at h
    split at h
    · rename_i i len hg
      split at h
      · rename_i f2 h1
        obtain ⟨N0, h2⟩ := ih h
        refine ⟨N0 + 1, fun N n hN hn => ?_⟩
        obtain ⟨n', rfl⟩ : ∃ n', n = n' + 1 := ⟨n - 1, by omega⟩
        unfold mv_run
        try rw [hg]
        try dsimp only
        rw [mv_step_of_one h1]
        exact h2 N n' (by omega) (by omega)
      · cases h
    · cases h
theorem wp_ret {pc : Nat} {L st : List Value} {w : mv_W} {c k len : Nat} {i : Instr} {v : Option Value} (hg : mv_get code pc = some (i, len)) (h : mv_ret ret i len st = some v) (ho : mv_one cls ini xs Ls i len (pc, L, st, w, c, k) = none) (hi : ∀ call, mv_inv cls call i len st w = none) : mv_Wp xs Ls d cls ini ret code (pc, L, st, w, c, k) (v, w, c, k) := by
  refine ⟨1, fun N n hN hn => ?_⟩
  obtain ⟨n', rfl⟩ : ∃ n', n = n' + 1 := ⟨n - 1, by omega⟩
  unfold mv_run
  try dsimp only
  try rw [hg]
  try dsimp only
  unfold mv_step
  try rw [ho]
  try dsimp only
  try rw [hi]
  try dsimp only
  try rw [h]
theorem wp_iret {pc : Nat} {L : List Value} {w : mv_W} {c k : Nat} {x : Int32} (hg : mv_get code pc = some (.ireturn, 1)) : mv_Wp xs Ls d cls ini (some .int) code (pc, L, [.int x], w, c, k) (some (.int x), w, c, k) := wp_ret hg rfl rfl (fun _ => rfl)
theorem wp_zret {pc : Nat} {L : List Value} {w : mv_W} {c k : Nat} {x : Int32} (hg : mv_get code pc = some (.ireturn, 1)) (hx : x = 0 ∨ x = 1) : mv_Wp xs Ls d cls ini (some .boolean) code (pc, L, [.int x], w, c, k) (some (.int x), w, c, k) := wp_ret hg (if_pos hx) rfl (fun _ => rfl)
theorem wp_lret {pc : Nat} {L : List Value} {w : mv_W} {c k : Nat} {x : Int64} (hg : mv_get code pc = some (.lreturn, 1)) : mv_Wp xs Ls d cls ini (some .long) code (pc, L, [.long x], w, c, k) (some (.long x), w, c, k) := wp_ret hg rfl rfl (fun _ => rfl)
theorem wp_vret {pc : Nat} {L : List Value} {w : mv_W} {c k : Nat} (hg : mv_get code pc = some (.return_, 1)) : mv_Wp xs Ls d cls ini none code (pc, L, [], w, c, k) (none, w, c, k) := wp_ret hg rfl rfl (fun _ => rfl)
theorem ev_of_wp {j : Nat} {as : List Value} {w : mv_W} {r : mv_R} {y : MethodName} {bts : ByteArray} {nL kd na : Nat} (hM : mv_prog[j]? = some (cls, y, bts, nL, ret, kd, na)) (hc : mv_code j = code) (hl : Nat.ble (mv_sl as).length nL = true) (k : mv_Wp xs Ls d cls (Nat.beq kd 2) ret code (0, mv_loc0 as nL, [], w, 0, 0) r) : mv_Ev xs Ls (d + 1) j as w r := by
  obtain ⟨N0, h⟩ := k
  refine ⟨N0, fun N hN => ?_⟩
  unfold mv_call
  try rw [hM]
  try dsimp only
  try rw [hl]
  try dsimp only
  try rw [hc]
  exact h N N hN hN
theorem wp_call {pc : Nat} {L st as rest : List Value} {w w' : mv_W} {c k j dc dk len : Nat} {i : Instr} {v : Option Value} {r : mv_R} (hg : mv_get code pc = some (i, len)) (ho : mv_one cls ini xs Ls i len (pc, L, st, w, c, k) = none) (ha : mv_ask cls i len st w = some (j, as, rest)) (he : mv_Ev xs Ls d j as w (v, w', dc, dk)) (kk : mv_Wp xs Ls d cls ini ret code (pc + 3, L, v.toList ++ rest, w', c + dc, k + dk) r) : mv_Wp xs Ls d cls ini ret code (pc, L, st, w, c, k) r := by
  obtain ⟨N1, h1⟩ := he
  obtain ⟨N2, h2⟩ := kk
  refine ⟨N1 + N2 + 1, fun N n hN hn => ?_⟩
  obtain ⟨n', rfl⟩ : ∃ n', n = n' + 1 := ⟨n - 1, by omega⟩
  have hcl := h1 N (by omega)
  have hinv : mv_inv cls (mv_call xs Ls N d) i len st w = some (v.toList ++ rest, w', dc, dk) := by
    unfold mv_ask at ha
    unfold mv_inv
    split at ha
    · exact mv_askd_ok ha hcl
    · exact mv_askd_ok ha hcl
    · split at ha
      · cases ha
      · rename_i hob
        have h3 := mv_askd_ok ha hcl
        show (match mv_l1 mv_objs cls _, st with
          | true, Value.ref _ :: r => (match Nat.ble ((r.map fun (v : Value) => v.category).sum) 8 with
            | true => some (r, w, 0, 0)
            | false => none)
          | true, _ => none
          | false, st => mv_lnk 2 (mv_call xs Ls N d) cls _ st w) = _
        rw [hob]
        exact h3
    · cases ha
  unfold mv_run
  try dsimp only
  try rw [hg]
  try dsimp only
  unfold mv_step
  try rw [ho]
  try dsimp only
  try rw [hinv]
  exact h2 N n' (by omega) (by omega)
theorem ev_up {j e : Nat} {as : List Value} {w : mv_W} {r : mv_R} (h : mv_Ev xs Ls d j as w r) (hde : d ≤ e) : mv_Ev xs Ls e j as w r := by
  obtain ⟨N0, h⟩ := h
  exact ⟨N0, fun N hN => mv_call_up N hde j as w r (h N hN)⟩
end WP
