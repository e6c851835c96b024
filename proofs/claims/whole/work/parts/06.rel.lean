/-! the small machine's values, locals and cells, as the real ones: cell k lies at base + k; the script at b -/
def mv_tv (base b : Nat) (v : Value) : Value := match v with
  | .ref k => .ref (base + k)
  | .retAddr 1 => .ref b
  | v => v
theorem mv_tv_cat (base b : Nat) (v : Value) : (mv_tv base b v).category = v.category := by
  cases v with
  | retAddr n =>
    by_cases h : n = 1
    · subst h; rfl
    · have : mv_tv base b (.retAddr n) = .retAddr n := by
        unfold mv_tv
        split
        · contradiction
        · rename_i h1; cases h1; exact absurd rfl h
        · rfl
      rw [this]
  | _ => rfl
def mv_ta (base : Nat) (a : vp_A) : vp_A := match a.2 with
  | .inr (.inr (.inr (.inr f))) => (a.1, .inr (.inr (.inr (.inr (fun j => (f j).map (fun k => base + k))))))
  | _ => a
def mv_te (base b : Nat) (cA : Nat → ClassId) (x : mv_E) : va_E := match x with
  | .inl (t, a) => .inl (cA t, mv_ta base a)
  | .inr (c, fs) => .inr (c, fs.map (mv_tv base b))
def mv_tw (base b : Nat) (cA : Nat → ClassId) (w : mv_W) : va_W := w.mapIdx (fun k x => (base + k, mv_te base b cA x))
theorem mv_tw_at (base b : Nat) (cA : Nat → ClassId) (w : mv_W) (k : Nat) : (mv_tw base b cA w)[k]? = (w[k]?).map (fun x => (base + k, mv_te base b cA x)) := by
  simp [mv_tw, List.getElem?_mapIdx]
theorem mv_tw_get {base b : Nat} {cA : Nat → ClassId} {w : mv_W} {k : Nat} {x : mv_E} (h : w[k]? = some x) : (mv_tw base b cA w)[k]? = some (base + k, mv_te base b cA x) := by
  rw [mv_tw_at, h]; rfl
theorem mv_tw_set {base b : Nat} {cA : Nat → ClassId} {w : mv_W} {k : Nat} {x : mv_E} : (mv_tw base b cA w).set k (base + k, mv_te base b cA x) = mv_tw base b cA (w.set k x) := by
  apply List.ext_getElem?
  intro i
  rw [mv_tw_at, List.getElem?_set, List.getElem?_set, mv_tw_at]
  have hl : (mv_tw base b cA w).length = w.length := by simp [mv_tw]
  rw [hl]
  by_cases h : k = i
  · subst h
    by_cases h2 : k < w.length
    · simp [h2]
    · simp [h2]
  · simp [h]
theorem mv_tw_app {base b : Nat} {cA : Nat → ClassId} {w : mv_W} {x : mv_E} : mv_tw base b cA (w ++ [x]) = mv_tw base b cA w ++ [(base + w.length, mv_te base b cA x)] := by
  simp [mv_tw, List.mapIdx_append]
theorem mv_tw_D {base b : Nat} {cA : Nat → ClassId} {w : mv_W} : va_D (fun q => base ≤ q) (mv_tw base b cA w) := by
  refine ⟨fun i j p q hi hj hpq => ?_, fun k q hk => ?_⟩
  · rw [mv_tw_at] at hi hj
    cases h1 : w[i]? with
    | none => rw [h1] at hi; cases hi
    | some x => cases h2 : w[j]? with
      | none => rw [h2] at hj; cases hj
      | some y =>
        rw [h1] at hi; rw [h2] at hj
        cases hi; cases hj
        have : base + i = base + j := hpq
        omega
  · rw [mv_tw_at] at hk
    cases h1 : w[k]? with
    | none => rw [h1] at hk; cases hk
    | some x =>
      rw [h1] at hk
      cases hk
      exact Nat.le_add_right _ _
/-! locals -/
def mv_pr (base b : Nat) (L : List Value) : List (Nat × Value) := (List.range L.length).filterMap (fun (i : Nat) => match (L[i]? : Option Value) with
  | some (.retAddr 0) => none
  | some v => some (i, mv_tv base b v)
  | none => none)
theorem mv_pr_mem {base b : Nat} {L : List Value} {q : Nat × Value} : q ∈ mv_pr base b L ↔ ∃ v, L[q.1]? = some v ∧ v ≠ .retAddr 0 ∧ q.2 = mv_tv base b v := by
  unfold mv_pr
  rw [List.mem_filterMap]
  constructor
  · rintro ⟨i, -, h⟩
    split at h
    · cases h
    · rename_i v hne hv
      cases h
      exact ⟨v, hv, fun h => hne (by rw [h]), rfl⟩
    · cases h
  · rintro ⟨v, h1, h2, h3⟩
    obtain ⟨i, u⟩ := q
    dsimp only at h1 h3
    subst h3
    refine ⟨i, List.mem_range.mpr (List.getElem?_eq_some_iff.mp h1).1, ?_⟩
    rw [h1]
    split
    · rename_i h; cases h; exact absurd rfl h2
    · rename_i h; cases h; rfl
    · rename_i h; cases h
def mv_ls (base b nL : Nat) (ls : Array Slot) (L : List Value) : Prop := lv_has ls nL (mv_pr base b L) ∧ L.length = nL
theorem mv_ls_at {base b nL : Nat} {ls : Array Slot} {L : List Value} (h : mv_ls base b nL ls L) {k : Nat} {v : Value} (hk : L[k]? = some v) (hv : v ≠ .retAddr 0) : ls[k]? = some (.val (mv_tv base b v)) :=
  h.1.2.2 (k, mv_tv base b v) (mv_pr_mem.mpr ⟨v, hk, hv, rfl⟩)
theorem mv_st1_len : ∀ (L : List Value) (k : Nat) (v : Value), (mv_st1 L k v).length = L.length
  | [], _, _ => rfl
  | _ :: L, 0, v => rfl
  | a :: L, 1, v => by simp [mv_st1, mv_st1_len L 0 v]
  | a :: L, k + 2, v => by simp [mv_st1, mv_st1_len L (k + 1) v]
theorem mv_hd_len (L : List Value) (v : Value) : (mv_hd L v).length = L.length := by cases L <;> rfl
theorem mv_st2_len : ∀ (L : List Value) (k : Nat) (v : Value), (mv_st2 L k v).length = L.length
  | [], _, _ => rfl
  | _ :: L, 0, v => by simp [mv_st2, mv_hd_len]
  | a :: L, 1, v => by simp [mv_st2, mv_st2_len L 0 v]
  | a :: L, k + 2, v => by simp [mv_st2, mv_st2_len L (k + 1) v]
theorem mv_st1_get : ∀ (L : List Value) (k : Nat) (v : Value) (j : Nat), (mv_st1 L k v)[j]? = if j = k then (L[j]?).map (fun _ => v) else if j + 1 = k then (L[j]?).map mv_clob else L[j]?
  | [], _, _, j => by simp [mv_st1]
  | a :: L, 0, v, 0 => by simp [mv_st1]
  | a :: L, 0, v, j + 1 => by simp [mv_st1]
  | a :: L, 1, v, 0 => by simp [mv_st1]
  | a :: L, 1, v, j + 1 => by
    have := mv_st1_get L 0 v j
    simp only [mv_st1, List.getElem?_cons_succ, this]
    by_cases h : j = 0
    · subst h; simp
    · simp [h]
  | a :: L, k + 2, v, 0 => by simp [mv_st1]
  | a :: L, k + 2, v, j + 1 => by
    have := mv_st1_get L (k + 1) v j
    simp only [mv_st1, List.getElem?_cons_succ, this]
    by_cases h : j = k + 1
    · subst h; simp
    · by_cases h2 : j = k
      · subst h2; simp
      · simp [h, h2]
theorem mv_hd_get : ∀ (L : List Value) (v : Value) (j : Nat), (mv_hd L v)[j]? = if j = 0 then (L[j]?).map (fun _ => v) else L[j]?
  | [], _, j => by simp [mv_hd]
  | a :: L, v, 0 => by simp [mv_hd]
  | a :: L, v, j + 1 => by simp [mv_hd]
theorem mv_st2_get : ∀ (L : List Value) (k : Nat) (v : Value) (j : Nat), (mv_st2 L k v)[j]? = if j = k then (L[j]?).map (fun _ => v) else if j = k + 1 then (L[j]?).map (fun _ => .retAddr 0) else if j + 1 = k then (L[j]?).map mv_clob else L[j]?
  | [], _, _, j => by simp [mv_st2]
  | a :: L, 0, v, 0 => by simp [mv_st2]
  | a :: L, 0, v, j + 1 => by
    simp only [mv_st2, List.getElem?_cons_succ, mv_hd_get]
    by_cases h : j = 0
    · subst h; simp
    · simp [h]
  | a :: L, 1, v, 0 => by simp [mv_st2]
  | a :: L, 1, v, j + 1 => by
    have := mv_st2_get L 0 v j
    simp only [mv_st2, List.getElem?_cons_succ, this]
    by_cases h : j = 0
    · subst h; simp
    · by_cases h2 : j = 1
      · subst h2; simp
      · simp [h, h2]
  | a :: L, k + 2, v, 0 => by simp [mv_st2]
  | a :: L, k + 2, v, j + 1 => by
    have := mv_st2_get L (k + 1) v j
    simp only [mv_st2, List.getElem?_cons_succ, this]
    by_cases h : j = k + 1
    · subst h; simp
    · by_cases h2 : j = k + 2
      · subst h2; simp
      · by_cases h3 : j = k
        · subst h3; simp [show ¬ j = j + 1 + 1 by omega]
        · simp [h, h2, h3]
theorem mv_clob_ne {v : Value} (h : mv_clob v ≠ .retAddr 0) : mv_clob v = v ∧ ¬ v.category = 2 := by
  cases v with
  | long x => exact absurd rfl h
  | double x => exact absurd rfl h
  | _ => exact ⟨rfl, by simp [Value.category]⟩
theorem mv_ls_st1 {base b nL : Nat} {ls ls' : Array Slot} {L : List Value} {k : Nat} {v : Value} (h : mv_ls base b nL ls L)
    (h' : lv_has ls' nL ((k, mv_tv base b v) :: (mv_pr base b L).filter (fun q => !(q.1 == k) && !(q.1 + 1 == k && q.2.category == 2)))) : mv_ls base b nL ls' (mv_st1 L k v) := by
  refine ⟨⟨h'.1, h'.2.1, fun q hq => h'.2.2 q ?_⟩, by rw [mv_st1_len]; exact h.2⟩
  obtain ⟨u, h1, h2, h3⟩ := mv_pr_mem.mp hq
  rw [mv_st1_get] at h1
  by_cases e1 : q.1 = k
  · rw [if_pos e1] at h1
    cases hL : L[q.1]? with
    | none => rw [hL] at h1; cases h1
    | some a =>
      rw [hL] at h1
      cases h1
      refine List.mem_cons.mpr (Or.inl ?_)
      rw [← h3, ← e1]
  · rw [if_neg e1] at h1
    refine List.mem_cons_of_mem _ (List.mem_filter.mpr ?_)
    by_cases e2 : q.1 + 1 = k
    · rw [if_pos e2] at h1
      cases hL : L[q.1]? with
      | none => rw [hL] at h1; cases h1
      | some a =>
        rw [hL] at h1
        have h4 : mv_clob a = u := Option.some.inj h1
        subst h4
        obtain ⟨h5, h6⟩ := mv_clob_ne h2
        rw [h5] at h3 h2
        refine ⟨mv_pr_mem.mpr ⟨a, hL, h2, h3⟩, ?_⟩
        rw [h3, mv_tv_cat]
        simp [e1, h6]
    · rw [if_neg e2] at h1
      refine ⟨mv_pr_mem.mpr ⟨u, h1, h2, h3⟩, ?_⟩
      simp [e1, e2]
theorem mv_ls_st2 {base b nL : Nat} {ls ls' : Array Slot} {L : List Value} {k : Nat} {v : Value} (h : mv_ls base b nL ls L)
    (h' : lv_has ls' nL ((k, mv_tv base b v) :: (mv_pr base b L).filter (fun q => !(q.1 == k) && (!(q.1 == k + 1) && !(q.1 + 1 == k && q.2.category == 2))))) : mv_ls base b nL ls' (mv_st2 L k v) := by
  refine ⟨⟨h'.1, h'.2.1, fun q hq => h'.2.2 q ?_⟩, by rw [mv_st2_len]; exact h.2⟩
  obtain ⟨u, h1, h2, h3⟩ := mv_pr_mem.mp hq
  rw [mv_st2_get] at h1
  by_cases e1 : q.1 = k
  · rw [if_pos e1] at h1
    cases hL : L[q.1]? with
    | none => rw [hL] at h1; cases h1
    | some a =>
      rw [hL] at h1
      cases h1
      refine List.mem_cons.mpr (Or.inl ?_)
      rw [← h3, ← e1]
  · rw [if_neg e1] at h1
    by_cases e0 : q.1 = k + 1
    · rw [if_pos e0] at h1
      cases hL : L[q.1]? with
      | none => rw [hL] at h1; cases h1
      | some a =>
        rw [hL] at h1
        have h4 : Value.retAddr 0 = u := Option.some.inj h1
        exact absurd h4.symm h2
    rw [if_neg e0] at h1
    refine List.mem_cons_of_mem _ (List.mem_filter.mpr ?_)
    by_cases e2 : q.1 + 1 = k
    · rw [if_pos e2] at h1
      cases hL : L[q.1]? with
      | none => rw [hL] at h1; cases h1
      | some a =>
        rw [hL] at h1
        have h4 : mv_clob a = u := Option.some.inj h1
        subst h4
        obtain ⟨h5, h6⟩ := mv_clob_ne h2
        rw [h5] at h3 h2
        refine ⟨mv_pr_mem.mpr ⟨a, hL, h2, h3⟩, ?_⟩
        rw [h3, mv_tv_cat]
        simp [e1, h6, show ¬ q.1 = k + 1 by omega]
    · rw [if_neg e2] at h1
      refine ⟨mv_pr_mem.mpr ⟨u, h1, h2, h3⟩, ?_⟩
      simp [e1, e2, e0]
/-! look-ups -/
theorem mv_get_mem : ∀ {c : List (Nat × Instr × Nat)} {pc : Nat} {q : Instr × Nat}, mv_get c pc = some q → (pc, q) ∈ c
  | [], _, _, h => by cases h
  | a :: c, pc, q, h => by
    unfold mv_get at h
    split at h
    · rename_i hb
      have := Nat.eq_of_beq_eq_true hb
      cases h
      subst this
      exact List.mem_cons_self
    · exact List.mem_cons_of_mem _ (mv_get_mem h)
theorem mv_l2_mem {α : Type} : ∀ {c : List (Nat × Nat × α)} {x y : Nat} {q : α}, mv_l2 c x y = some q → (x, y, q) ∈ c
  | [], _, _, _, h => by cases h
  | a :: c, x, y, q, h => by
    unfold mv_l2 at h
    split at h
    · rename_i hb
      have h1 := Nat.eq_of_beq_eq_true hb
      split at h
      · rename_i hb2
        have h2 := Nat.eq_of_beq_eq_true hb2
        cases h
        subst h1 h2
        exact List.mem_cons_self
      · exact List.mem_cons_of_mem _ (mv_l2_mem h)
    · exact List.mem_cons_of_mem _ (mv_l2_mem h)
theorem mv_l1_mem : ∀ {c : List (Nat × Nat)} {x y : Nat}, mv_l1 c x y = true → (x, y) ∈ c
  | [], _, _, h => by cases h
  | a :: c, x, y, h => by
    unfold mv_l1 at h
    split at h
    · rename_i hb
      have h1 := Nat.eq_of_beq_eq_true hb
      split at h
      · rename_i hb2
        have h2 := Nat.eq_of_beq_eq_true hb2
        subst h1 h2
        exact List.mem_cons_self
      · exact List.mem_cons_of_mem _ (mv_l1_mem h)
    · exact List.mem_cons_of_mem _ (mv_l1_mem h)
theorem mv_tgt_eq {pc t : Nat} {o : Int} (h : mv_tgt pc o = some t) : (pc : Int) + o = (t : Int) := by
  unfold mv_tgt at h
  split at h
  · rename_i h1; cases h; exact h1
  · cases h
