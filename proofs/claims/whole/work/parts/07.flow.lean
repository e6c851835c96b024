section MV1
variable {p : Program} {l : Launch} {e : Env} {R : Room} {s : State} {m : MethodId} {args : Array Value} {below : List Frame} {meth : Method} {c : Code} {H : Heap} {locs : List Loc} {cells slots : Nat} {Q : State → Prop} {cc : ByteArray} {pc : Nat} {ls : Array Slot} {base b : Nat}
theorem mv_alu_ok (hx : p.tables.exec = Jvm.exec) (hb : c.code = cc) {i : Instr} {n : Nat} {st st' : List Value} (h : mv_alu i n st = some st') (hd : decode cc pc = .ok (i, n))
    (k : W p l e R s m args below meth c H locs cells slots Q (F0 m (pc + n) ls (st'.map (mv_tv base b)))) : W p l e R s m args below meth c H locs cells slots Q (F0 m pc ls (st.map (mv_tv base b))) := by
  unfold mv_alu at h
  split at h
  · cases h; exact lv_iconst hx hb hd rfl k
  · cases h; exact lv_bipush hx hb hd rfl k
  · cases h; exact lv_sipush hx hb hd rfl k
  · cases h; exact lv_lconst hx hb hd rfl k
  · cases h; exact lv_iadd hx hb hd k
  · cases h; exact lv_isub hx hb hd k
  · cases h; exact lv_imul hx hb hd k
  · cases h; exact lv_iand hx hb hd k
  · cases h; exact lv_ior hx hb hd k
  · cases h; exact lv_ixor hx hb hd k
  · cases h; exact lv_ishl hx hb hd k
  · cases h; exact lv_ishr hx hb hd k
  · cases h; exact lv_iushr hx hb hd rfl k
  · split at h
    · cases h
    · rename_i hy; cases h; exact lv_idiv hx hb hd hy k
  · cases h; exact lv_ineg hx hb hd k
  · cases h; exact lv_i2l hx hb hd rfl k
  · cases h; exact lv_ladd hx hb hd k
  · cases h; exact lv_lsub hx hb hd k
  · cases h; exact lv_lmul hx hb hd k
  · split at h
    · cases h
    · rename_i hy; cases h; exact lv_ldiv hx hb hd hy k
  · cases h; exact lv_lneg hx hb hd k
  · cases h; exact lv_lshl hx hb hd rfl k
  · cases h; exact W.lcmp hx hb hd k
  · cases h; exact lv_dup hx hb hd rfl k
  · cases h; exact lv_dup hx hb hd rfl k
  · cases h; exact lv_dup2_11 hx hb hd rfl rfl k
  · cases h; exact lv_dup2_11 hx hb hd rfl rfl k
  · cases h; exact lv_dup2_2 hx hb hd rfl k
  · cases h; exact lv_pop hx hb hd rfl k
  · cases h; exact lv_pop2_2 hx hb hd rfl k
  · cases h
theorem mv_ldI_ok {L st L' st' : List Value} {k : Nat} (h : mv_ldI L k st = some (L', st')) : ∃ x, L[k]? = some (.int x) ∧ L' = L ∧ st' = .int x :: st := by
  unfold mv_ldI at h
  split at h
  · rename_i x hx; cases h; exact ⟨x, hx, rfl, rfl⟩
  · cases h
theorem mv_ldL_ok {L st L' st' : List Value} {k : Nat} (h : mv_ldL L k st = some (L', st')) : ∃ x, L[k]? = some (.long x) ∧ L' = L ∧ st' = .long x :: st := by
  unfold mv_ldL at h
  split at h
  · rename_i x hx; cases h; exact ⟨x, hx, rfl, rfl⟩
  · cases h
theorem mv_ldA_ok {L st L' st' : List Value} {k : Nat} (h : mv_ldA L k st = some (L', st')) : ∃ v, L[k]? = some v ∧ L' = L ∧ st' = v :: st ∧ v ≠ .retAddr 0 ∧ ∃ a, mv_tv base b v = .ref a := by
  unfold mv_ldA at h
  split at h
  · rename_i x hx; cases h; exact ⟨_, hx, rfl, rfl, (fun h => by cases h), _, rfl⟩
  · rename_i hx; cases h; exact ⟨_, hx, rfl, rfl, (fun h => by cases h), _, rfl⟩
  · cases h
theorem mv_sto_ok {L r L' st' : List Value} {k : Nat} {v : Value} (h : mv_sto L k v r = some (L', st')) : k < L.length ∧ L' = mv_st1 L k v ∧ st' = r := by
  unfold mv_sto at h
  split at h
  · rename_i x hx; cases h; exact ⟨(List.getElem?_eq_some_iff.mp hx).1, rfl, rfl⟩
  · cases h
theorem mv_stl_ok {L r L' st' : List Value} {k : Nat} {v : Value} (h : mv_stl L k v r = some (L', st')) : k + 1 < L.length ∧ L' = mv_st2 L k v ∧ st' = r := by
  unfold mv_stl at h
  split at h
  · rename_i x hx; cases h; exact ⟨(List.getElem?_eq_some_iff.mp hx).1, rfl, rfl⟩
  · cases h
theorem mv_loc_ok (hx : p.tables.exec = Jvm.exec) (hb : c.code = cc) {nL : Nat} {i : Instr} {n : Nat} {L st L' st' : List Value} (h : mv_loc i n L st = some (L', st')) (hd : decode cc pc = .ok (i, n)) (hl : mv_ls base b nL ls L)
    (k : ∀ ls', mv_ls base b nL ls' L' → W p l e R s m args below meth c H locs cells slots Q (F0 m (pc + n) ls' (st'.map (mv_tv base b)))) : W p l e R s m args below meth c H locs cells slots Q (F0 m pc ls (st.map (mv_tv base b))) := by
  unfold mv_loc at h
  split at h
  · obtain ⟨x, h1, rfl, rfl⟩ := mv_ldI_ok h
    exact lv_iload hx hb hd (mv_ls_at hl h1 (fun h => by cases h)) (k ls hl)
  · obtain ⟨x, h1, rfl, rfl⟩ := mv_ldI_ok h
    exact lv_iload_n hx hb hd rfl (mv_ls_at hl h1 (fun h => by cases h)) (k ls hl)
  · obtain ⟨x, h1, rfl, rfl⟩ := mv_ldL_ok h
    exact lv_lload hx hb hd (mv_ls_at hl h1 (fun h => by cases h)) (k ls hl)
  · obtain ⟨x, h1, rfl, rfl⟩ := mv_ldL_ok h
    exact lv_lload_n hx hb hd rfl (mv_ls_at hl h1 (fun h => by cases h)) (k ls hl)
  · obtain ⟨v, h1, rfl, rfl, h2, a, ha⟩ := mv_ldA_ok (base := base) (b := b) h
    have h3 := mv_ls_at hl h1 h2
    have k := k ls hl
    rw [List.map_cons, ha] at k
    rw [ha] at h3
    exact lv_aload hx hb hd h3 k
  · obtain ⟨v, h1, rfl, rfl, h2, a, ha⟩ := mv_ldA_ok (base := base) (b := b) h
    have h3 := mv_ls_at hl h1 h2
    have k := k ls hl
    rw [List.map_cons, ha] at k
    rw [ha] at h3
    exact lv_aload_n hx hb hd rfl h3 k
  · obtain ⟨h1, rfl, rfl⟩ := mv_sto_ok h
    exact lv_istore hx hb hd hl.1 (by rw [← hl.2]; exact h1) rfl (fun ls' h' => k ls' (mv_ls_st1 hl h'))
  · obtain ⟨h1, rfl, rfl⟩ := mv_sto_ok h
    exact lv_istore_n hx hb hd rfl hl.1 (by rw [← hl.2]; exact h1) rfl (fun ls' h' => k ls' (mv_ls_st1 hl h'))
  · obtain ⟨h1, rfl, rfl⟩ := mv_stl_ok h
    exact lv_lstore hx hb hd hl.1 (by rw [← hl.2]; exact h1) rfl (fun ls' h' => k ls' (mv_ls_st2 hl h'))
  · obtain ⟨h1, rfl, rfl⟩ := mv_stl_ok h
    exact lv_lstore_n hx hb hd rfl hl.1 (by rw [← hl.2]; exact h1) rfl (fun ls' h' => k ls' (mv_ls_st2 hl h'))
  · obtain ⟨h1, rfl, rfl⟩ := mv_sto_ok h
    exact lv_astore hx hb hd hl.1 (by rw [← hl.2]; exact h1) rfl (fun ls' h' => k ls' (mv_ls_st1 (v := .ref _) hl h'))
  · obtain ⟨h1, rfl, rfl⟩ := mv_sto_ok h
    exact lv_astore_n hx hb hd rfl hl.1 (by rw [← hl.2]; exact h1) rfl (fun ls' h' => k ls' (mv_ls_st1 (v := .ref _) hl h'))
  · split at h
    · rename_i x h1
      cases h
      have h2 : (_, mv_tv base b (.int x)) ∈ mv_pr base b L := mv_pr_mem.mpr ⟨.int x, h1, (fun h => by cases h), rfl⟩
      obtain ⟨k0, hk0⟩ := List.mem_iff_getElem?.mp h2
      exact lv_iinc hx hb hd hl.1 hk0 rfl (by rw [← hl.2]; exact (List.getElem?_eq_some_iff.mp h1).1) rfl (fun ls' h' => k ls' (mv_ls_st1 (v := .int _) hl h'))
    · cases h
  · cases h
theorem mv_ifs_ok {t : Nat} {o : Int} {r st' : List Value} {g : Prop} [Decidable g] (h : mv_ifs pc o r g = some (t, st')) : ∃ u : Nat, (pc : Int) + o = (u : Int) ∧ st' = r ∧ (g → t = u) ∧ (¬ g → t = pc + 3) := by
  unfold mv_ifs at h
  split at h
  · rename_i u hu
    cases h
    exact ⟨u, mv_tgt_eq hu, rfl, fun h => if_pos h, fun h => if_neg h⟩
  · cases h
theorem mv_br_ok (hx : p.tables.exec = Jvm.exec) (hb : c.code = cc) {i : Instr} {n t : Nat} {st st' : List Value} (h : mv_br i n pc st = some (t, st')) (hd : decode cc pc = .ok (i, n))
    (k : W p l e R s m args below meth c H locs cells slots Q (F0 m t ls (st'.map (mv_tv base b)))) : W p l e R s m args below meth c H locs cells slots Q (F0 m pc ls (st.map (mv_tv base b))) := by
  unfold mv_br at h
  split at h
  · split at h
    · rename_i u hu; cases h; exact lv_goto hx hb hd (mv_tgt_eq hu) k
    · cases h
  · obtain ⟨u, hu, rfl, h1, h2⟩ := mv_ifs_ok h
    exact lv_if_eq hx hb hd hu (fun g => by rw [h1 g] at k; exact k) (fun g => by rw [h2 g] at k; exact k)
  · obtain ⟨u, hu, rfl, h1, h2⟩ := mv_ifs_ok h
    exact lv_if_ne hx hb hd hu (fun g => by rw [h1 g] at k; exact k) (fun g => by rw [h2 (fun z => z g)] at k; exact k)
  · obtain ⟨u, hu, rfl, h1, h2⟩ := mv_ifs_ok h
    exact lv_if_lt hx hb hd hu (fun g => by rw [h1 g] at k; exact k) (fun g => by rw [h2 g] at k; exact k)
  · obtain ⟨u, hu, rfl, h1, h2⟩ := mv_ifs_ok h
    exact lv_if_ge hx hb hd hu (fun g => by rw [h1 g] at k; exact k) (fun g => by rw [h2 g] at k; exact k)
  · obtain ⟨u, hu, rfl, h1, h2⟩ := mv_ifs_ok h
    exact lv_if_gt hx hb hd hu (fun g => by rw [h1 g] at k; exact k) (fun g => by rw [h2 g] at k; exact k)
  · obtain ⟨u, hu, rfl, h1, h2⟩ := mv_ifs_ok h
    exact lv_if_le hx hb hd hu (fun g => by rw [h1 g] at k; exact k) (fun g => by rw [h2 g] at k; exact k)
  · obtain ⟨u, hu, rfl, h1, h2⟩ := mv_ifs_ok h
    exact lv_icmp_eq hx hb hd hu (fun g => by rw [h1 g] at k; exact k) (fun g => by rw [h2 g] at k; exact k)
  · obtain ⟨u, hu, rfl, h1, h2⟩ := mv_ifs_ok h
    exact lv_icmp_ne hx hb hd hu (fun g => by rw [h1 g] at k; exact k) (fun g => by rw [h2 (fun z => z g)] at k; exact k)
  · obtain ⟨u, hu, rfl, h1, h2⟩ := mv_ifs_ok h
    exact lv_icmp_lt hx hb hd hu (fun g => by rw [h1 g] at k; exact k) (fun g => by rw [h2 g] at k; exact k)
  · obtain ⟨u, hu, rfl, h1, h2⟩ := mv_ifs_ok h
    exact lv_icmp_ge hx hb hd hu (fun g => by rw [h1 g] at k; exact k) (fun g => by rw [h2 g] at k; exact k)
  · obtain ⟨u, hu, rfl, h1, h2⟩ := mv_ifs_ok h
    exact lv_icmp_gt hx hb hd hu (fun g => by rw [h1 g] at k; exact k) (fun g => by rw [h2 g] at k; exact k)
  · obtain ⟨u, hu, rfl, h1, h2⟩ := mv_ifs_ok h
    exact lv_icmp_le hx hb hd hu (fun g => by rw [h1 g] at k; exact k) (fun g => by rw [h2 g] at k; exact k)
  · split at h
    · rename_i ho
      split at h
      · rename_i u hu; cases h; exact lv_tableOut hx hb hd ho (mv_tgt_eq hu) k
      · cases h
    · rename_i ho
      split at h
      · rename_i off hoff
        split at h
        · rename_i u hu; cases h; exact lv_tableIn hx hb hd (fun g => ho (Or.inl g)) (fun g => ho (Or.inr g)) hoff (mv_tgt_eq hu) k
        · cases h
      · cases h
  · cases h
end MV1
