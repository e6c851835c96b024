theorem mv_sl_args {base b : Nat} : ∀ (as : List Value) (i j : Nat) (u : Value), (mv_sl as)[j]? = some u → u ≠ .retAddr 0 → (i + j, mv_tv base b u) ∈ lv_args i (as.map (mv_tv base b))
  | [], i, j, u, h, hu => by simp [mv_sl] at h
  | v :: r, i, j, u, h, hu => by
    by_cases hc : v.category = 2
    · have e : mv_sl (v :: r) = v :: .retAddr 0 :: mv_sl r := by cases v <;> first | rfl | exact absurd hc (by simp [Value.category])
      rw [e] at h
      simp only [List.map_cons, lv_args]
      rw [if_pos (by rw [mv_tv_cat]; exact hc)]
      match j, h with
      | 0, h => cases h; exact List.mem_cons_self
      | 1, h => cases h; exact absurd rfl hu
      | j + 2, h =>
        have := mv_sl_args (base := base) (b := b) r (i + 2) j u h hu
        rw [show i + (j + 2) = i + 2 + j by omega]
        exact List.mem_cons_of_mem _ this
    · have e : mv_sl (v :: r) = v :: mv_sl r := by cases v <;> first | rfl | exact absurd rfl hc
      rw [e] at h
      simp only [List.map_cons, lv_args]
      rw [if_neg (by rw [mv_tv_cat]; exact hc)]
      match j, h with
      | 0, h => cases h; exact List.mem_cons_self
      | j + 1, h =>
        have := mv_sl_args (base := base) (b := b) r (i + 1) j u h hu
        rw [show i + (j + 1) = i + 1 + j by omega]
        exact List.mem_cons_of_mem _ this
theorem mv_sl_len {base b : Nat} : ∀ (as : List Value), (lg_sl (as.map (mv_tv base b))).length = (mv_sl as).length
  | [] => rfl
  | v :: r => by
    have ih := mv_sl_len (base := base) (b := b) r
    by_cases hc : v.category = 2
    · have e : mv_sl (v :: r) = v :: .retAddr 0 :: mv_sl r := by cases v <;> first | rfl | exact absurd hc (by simp [Value.category])
      rw [e]
      simp only [lg_sl, List.map_cons, List.flatMap_cons, List.length_append, List.length_cons] at ih ⊢
      rw [if_pos (by rw [mv_tv_cat]; exact hc), ih]
      simp only [List.length_cons, List.length_nil]
      omega
    · have e : mv_sl (v :: r) = v :: mv_sl r := by cases v <;> first | rfl | exact absurd rfl hc
      rw [e]
      simp only [lg_sl, List.map_cons, List.flatMap_cons, List.length_append, List.length_cons] at ih ⊢
      rw [if_neg (by rw [mv_tv_cat]; exact hc), ih]
      simp only [List.length_cons, List.length_nil]
      omega
theorem mv_entry_ls {base b : Nat} (as : List Value) {n : Nat} (h : (mv_sl as).length ≤ n) : mv_ls base b n ((lg_sl (as.map (mv_tv base b)) ++ List.replicate (n - (lg_sl (as.map (mv_tv base b))).length) Slot.unset).toArray) (mv_loc0 as n) := by
  have h0 := lv_entry (as.map (mv_tv base b)) (n := n) (by rw [mv_sl_len]; exact h)
  refine ⟨⟨h0.1, h0.2.1, fun q hq => h0.2.2 q ?_⟩, by simp [mv_loc0]; omega⟩
  obtain ⟨v, h1, h2, h3⟩ := mv_pr_mem.mp hq
  unfold mv_loc0 at h1
  by_cases hj : q.1 < (mv_sl as).length
  · rw [List.getElem?_append_left hj] at h1
    have := mv_sl_args (base := base) (b := b) as 0 q.1 v h1 h2
    rw [Nat.zero_add, ← h3] at this
    exact this
  · rw [List.getElem?_append_right (by omega), List.getElem?_replicate] at h1
    split at h1
    · cases h1; exact absurd rfl h2
    · cases h1
set_option maxHeartbeats 1000000 in
/-- a call of the small machine that ends is a contract of the real method -/
theorem mv_call_ok (hM : mv_MnaOk) (l : Launch) (D : va_G) (base b Ls : Nat) (xs : Nat → Int32) (cA : Nat → ClassId) (N : Nat) : ∀ d, mv_Ok l D base b Ls xs cA d (mv_call xs Ls N d)
  | 0 => fun j as w r w' mc ms M hMj h => by cases h
  | d + 1 => fun j as w r w' mc ms M hMj h => by
    have ih := mv_call_ok hM l D base b Ls xs cA N d
    unfold mv_call at h
    rw [hMj] at h
    dsimp only at h
    split at h
    · rename_i hlen
      have hlen := Nat.le_of_ble_eq_true hlen
      obtain ⟨m1, m2, m3, m4, m5, m6⟩ := mv_prog_ok M (List.mem_of_getElem? hMj)
      unfold mv_Con
      refine Met.ofW (cc := M.2.2.1) (maxL := M.2.2.2.1) (ret := M.2.2.2.2.1) m5 rfl ?_
      intro p e s m args below meth c s₁ B hml hv
      obtain ⟨rfl, hP, hz, hX⟩ := hv
      have hts := atoms_spec (ws := mv_ws M) B.pre
      have hown : s.vm.findClass (mv_nm M.1) = some m.cls := by rw [← m1]; exact findClass_of_methodNamed B.named
      have hlocks := B.notSynchronized
      have hx := B.exec
      have hb := B.bytes
      have hr := B.returns
      rw [lg_entry_eq]
      refine mv_run_ok (R := mv_rm (d + 1) mc ms) (d := d) (nL := M.2.2.2.1) (cls := M.1) hM ⟨hx, hb, hml, hown, fun w hw => hts w (List.mem_cons_of_mem _ hw)⟩ ?_ hX (by omega) ⟨Nat.le_refl _, Nat.le_refl _⟩ ih (mv_call_cnt xs Ls N d) (mv_dec j M hMj) (Nat.le_refl _) (Nat.le_refl _) ?_ N 0 _ [] w 0 0 h s.heap [] _ (mv_entry_ls as hlen) hP va_S.rf (by omega)
      · intro hi
        rw [(name_of_methodNamed B.named B.method).1]
        exact (m6 (Nat.eq_of_beq_eq_true hi)).1
      · intro pc ls H locs i st hd hrt hP' hS'
        generalize hre : M.2.2.2.2.1 = ret at hrt
        rw [hre] at hr
        unfold mv_ret at hrt
        split at hrt
        · cases hrt
          exact W.iret hx hb hr (fun t ht hW => ⟨rfl, by rw [ht]; exact hP', hS'.F ht⟩) hS'.2.2 hd
        · split at hrt
          · rename_i h01
            cases hrt
            exact W.zret hx hb hr (by rcases h01 with g | g <;> (rw [g]; rfl)) (fun t ht hW => ⟨rfl, by rw [ht]; exact hP', hS'.F ht⟩) hS'.2.2 hd
          · cases hrt
        · cases hrt
          exact W.lret hx hb hr (fun t ht hW => ⟨rfl, by rw [ht]; exact hP', hS'.F ht⟩) hS'.2.2 hd
        · cases hrt
          exact W.vret hx hb hr (fun t ht hW => ⟨rfl, by rw [ht]; exact hP', hS'.F ht⟩) hS'.2.2 hd
        · cases hrt
    · cases h
