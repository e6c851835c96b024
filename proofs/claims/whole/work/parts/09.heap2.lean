/-- new int[n][k]: a rule that rests on a part of the library of its own; proved in a later part -/
def mv_MnaOk : Prop := ∀ (p : Program) (l : Launch) (e : Env) (R : Room) (s : State) (m : MethodId) (args : Array Value) (below : List Frame) (meth : Method) (c : Code) (H : Heap) (locs : List Loc) (cells slots : Nat) (Q : State → Prop) (cc : ByteArray) (pc : Nat) (ls : Array Slot) (base b : Nat) (D : va_G) (cA : Nat → ClassId) (xs : Nat → Int32) (Ls nL : Nat) (w : mv_W) (k n : Int32) (r : List Value),
  CallFix p m c cc nL s args mv_Ts (mv_nm 4) → mv_X D base b Ls xs cA s → decode cc pc = .ok (.multianewarray 9 2, 4) → va_P D vwCl (mv_tw base b cA w) H → va_S (fun q => base ≤ q) s.heap H locs → base ≤ s.heap.size → H.size = base + w.length →
  ¬ k < 0 → ¬ n < 0 → k.toNatClampNeg < 1048576 → n.toNatClampNeg < 1048576 → cells + (1 + n.toNatClampNeg) ≤ R.cells → slots + (n.toNatClampNeg + n.toNatClampNeg * k.toNatClampNeg) ≤ R.slots →
  (∀ (H' : Heap) (locs' : List Loc), va_P D vwCl (mv_tw base b cA ((w ++ [.inl (2, n.toNatClampNeg, .inr (.inr (.inr (.inr (fun j => if j < n.toNatClampNeg then some (w.length + 1 + j) else none)))))]) ++ List.replicate n.toNatClampNeg (.inl (0, k.toNatClampNeg, .inl (fun _ => 0))))) H' → va_S (fun q => base ≤ q) s.heap H' locs' →
    W p l e R s m args below meth c H' locs' (cells + (1 + n.toNatClampNeg)) (slots + (n.toNatClampNeg + n.toNatClampNeg * k.toNatClampNeg)) Q (F0 m (pc + 4) ls (.ref (base + w.length) :: r))) →
  W p l e R s m args below meth c H locs cells slots Q (F0 m pc ls (.int k :: .int n :: r))
section MV3
variable {p : Program} {l : Launch} {e : Env} {R : Room} {s : State} {m : MethodId} {args : Array Value} {below : List Frame} {meth : Method} {c : Code} {H : Heap} {locs : List Loc} {cells slots : Nat} {Q : State → Prop} {cc : ByteArray} {pc : Nat} {ls : Array Slot} {base b : Nat} {D : va_G} {cA : Nat → ClassId} {xs : Nat → Int32} {Ls nL cls : Nat} {ini : Bool}
theorem mv_new_ok (S : CallFix p m c cc nL s args mv_Ts (mv_nm cls)) (hK : va_K D vwCl (mv_tys cA) s) {x ci : Nat} {r : List Value} {w : mv_W} (hf : (cls, x, ci) ∈ mv_news) (hd : decode cc pc = .ok (.new x, 3)) (hP : va_P D vwCl (mv_tw base b cA w) H) (hS : va_S (fun q => base ≤ q) s.heap H locs)
    (hz : H.size = base + w.length) (hc : cells + 1 ≤ R.cells) (hk : slots + (mv_cl ci).2.2 ≤ R.slots)
    (kk : ∀ (H' : Heap) (locs' : List Loc), va_P D vwCl (mv_tw base b cA (w ++ [.inr (ci, (List.range (mv_cl ci).2.2).map (fun k => mv_dfl (mv_ty ci k)))])) H' → va_S (fun q => base ≤ q) s.heap H' locs' → W p l e R s m args below meth c H' locs' (cells + 1) (slots + (mv_cl ci).2.2) Q (F0 m (pc + 3) ls (.ref (base + w.length) :: r))) :
    W p l e R s m args below meth c H locs cells slots Q (F0 m pc ls r) := by
  obtain ⟨hx, hb, hml, hown, hts⟩ := S
  have hci : ci < 7 := mv_news_ok _ hf
  obtain ⟨c1, c2, c3, c4, c5⟩ := mv_cls_ok ci hci
  have hKn := hK.1 ci _ c1
  refine W.newcK hx hb hown (hts _ (mv_in_new hf)) (by have := hts _ (mv_in_inst hci); exact this) (hts _ (mv_in_init (c := ci) (by omega))) rfl hd hc hk (by rw [← c2]; exact hKn.2.1) hz fun H1 kC hkC e1 z1 o1 => ?_
  have hk9 : ∀ (k : Nat) (y : Nat × va_E), (mv_tw base b cA w)[k]? = some y → H1[y.1]? = H[y.1]? := fun k y hy => o1 y.1 (by rw [← hz]; exact (hP k y hy).lt)
  refine kk H1 locs ?_ ⟨Nat.le_trans hS.1 (by omega), fun y h1 h2 => (o1 y (by rw [← hz]; exact Nat.lt_of_lt_of_le h1 hS.1)).trans (hS.2.1 y h1 h2), hS.2.2⟩
  rw [mv_tw_app]
  refine (hP.kept hk9).app (fun k y hy => ?_)
  have hz0 : k < 1 := (List.getElem?_eq_some_iff.mp hy).1
  rw [show k = 0 by omega] at hy
  cases hy
  refine ⟨_, c1, (u_born (mv_ty ci) hts c3 hKn hkC e1 c4).to (fun j hj => ?_)⟩
  have ht := mv_tyok ci hci j hj
  simp only [vp_V]
  rw [List.getD_eq_getElem?_getD, List.getElem?_map, List.getElem?_map, List.getElem?_range hj]
  show defaultValue (mv_ty ci j) = mv_tv base b (mv_dfl (mv_ty ci j))
  generalize mv_ty ci j = t at ht ⊢
  cases t <;> first | rfl | cases ht
theorem mv_newa_ok (S : CallFix p m c cc nL s args mv_Ts (mv_nm cls)) (hK : va_K D vwCl (mv_tys cA) s) {at1 : ArrayType} {t : Nat} {ty : FieldType} {x : Int32} {a0 : vp_A} {r : List Value} {w : mv_W} (ht : (mv_tys cA)[t]? = some (cA t, ty)) (hty : newarray.typeOf at1 = ty) (hob : ∀ C, ty ≠ .object C) (hcl : (Cond.arrayClass ty).before args s = true) (hd : decode cc pc = .ok (.newarray at1, 2)) (hP : va_P D vwCl (mv_tw base b cA w) H) (hS : va_S (fun q => base ≤ q) s.heap H locs)
    (ha : vp_cell (cA t) (mv_ta base a0) = arrV (cA t) x.toNatClampNeg (fun _ => defaultValue ty)) (hz : H.size = base + w.length) (hn : ¬ x < 0) (hbytes : x.toNatClampNeg * componentBytes ty ≤ 536870912) (hc : cells + 1 ≤ R.cells) (hk : slots + x.toNatClampNeg ≤ R.slots)
    (kk : ∀ (H' : Heap) (locs' : List Loc), va_P D vwCl (mv_tw base b cA (w ++ [.inl (t, a0)])) H' → va_S (fun q => base ≤ q) s.heap H' locs' → W p l e R s m args below meth c H' locs' (cells + 1) (slots + x.toNatClampNeg) Q (F0 m (pc + 2) ls (.ref (base + w.length) :: r))) :
    W p l e R s m args below meth c H locs cells slots Q (F0 m pc ls (.int x :: r)) := by
  obtain ⟨hx, hb, hml, hown, hts⟩ := S
  subst hty
  refine va_newaK hx hb hcl rfl hd rfl hn rfl hbytes hc hk hz fun H1 cB e1 z1 o1 hAr hNm => ?_
  have hRA : s.vm.findClass ("[" ++ (newarray.typeOf at1).toString) = some (cA t) := by
    have := (hK.2 t _ ht).2
    dsimp only at this
    cases at1 <;> exact this
  have hcc : cB = cA t := Option.some.inj (hNm.symm.trans hRA)
  subst hcc
  have hk9 : ∀ (k : Nat) (y : Nat × va_E), (mv_tw base b cA w)[k]? = some y → H1[y.1]? = H[y.1]? := fun k y hy => o1 y.1 (by rw [← hz]; exact (hP k y hy).lt)
  refine kk H1 locs ?_ ⟨Nat.le_trans hS.1 (by omega), fun y h1 h2 => (o1 y (by rw [← hz]; exact Nat.lt_of_lt_of_le h1 hS.1)).trans (hS.2.1 y h1 h2), hS.2.2⟩
  rw [mv_tw_app]
  refine (hP.kept hk9).app (fun k y hy => ?_)
  have hz0 : k < 1 := (List.getElem?_eq_some_iff.mp hy).1
  rw [show k = 0 by omega] at hy
  cases hy
  show H1[base + w.length]? = some (vp_cell (cA t) (mv_ta base a0))
  rw [ha]
  exact e1
theorem mv_mf_ok (S : CallFix p m c cc nL s args mv_Ts (mv_nm cls)) (hR : 1 ≤ R.frames ∧ 40 ≤ R.locals) (hls : ls.size = nL) {x k : Nat} {st st' : List Value} (h : mv_mf k st = some st') (hf : (cls, x, k) ∈ mv_maths) (hd : decode cc pc = .ok (.invokestatic x, 3)) (hc : cells ≤ R.cells) (hk : slots ≤ R.slots)
    (kk : W p l e R s m args below meth c H locs cells slots Q (F0 m (pc + 3) ls (st'.map (mv_tv base b)))) : W p l e R s m args below meth c H locs cells slots Q (F0 m pc ls (st.map (mv_tv base b))) := by
  obtain ⟨hx, hb, hml, hown, hts⟩ := S
  have hin : (Cond.initialized "java/lang/Math").before args s = true := hts _ (mv_in_init (c := 9) (by omega))
  have hl := hts _ (mv_in_math hf)
  have hcat : ∀ r : List Value, (r.map fun v => v.category).sum ≤ 8 → ((r.map (mv_tv base b)).map fun v => v.category).sum ≤ 8 := by
    intro r h
    have e : ((r.map (mv_tv base b)).map fun v => v.category) = (r.map fun v => v.category) := by
      rw [List.map_map]
      apply List.map_congr_left
      intro v _
      exact mv_tv_cat base b v
    rw [e]
    exact h
  have hml' : c.maxLocals = ls.size := by rw [hml, hls]
  unfold mv_mf at h
  split at h
  · split at h
    · rename_i hb8
      cases h
      have h8 := hcat _ (Nat.le_of_ble_eq_true hb8)
      exact va_mmax hx hb hml' hown hl (hts _ (mv_in8w (List.mem_append_right _ List.mem_cons_self))) hin (hts _ (mv_in9w List.mem_cons_self)) hR.1 (by have := hR.2; omega) hc hk hd kk
    · cases h
  · split at h
    · rename_i hb8
      cases h
      have h8 := hcat _ (Nat.le_of_ble_eq_true hb8)
      exact va_mmin hx hb hml' hown hl (hts _ (mv_in8w (List.mem_append_right _ (List.mem_cons_of_mem _ List.mem_cons_self)))) hin (hts _ (mv_in9w (List.mem_cons_of_mem _ List.mem_cons_self))) hR.1 (by have := hR.2; omega) hc hk hd kk
    · cases h
  · split at h
    · rename_i hb8
      cases h
      have h8 := hcat _ (Nat.le_of_ble_eq_true hb8)
      exact va_mabs_long hx hb hml' hown hl (hts _ (mv_in8w (List.mem_append_right _ (List.mem_cons_of_mem _ (List.mem_cons_of_mem _ List.mem_cons_self))))) hin (hts _ (mv_in9w (List.mem_cons_of_mem _ (List.mem_cons_of_mem _ List.mem_cons_self)))) hR.1 (by have := hR.2; omega) hc hk hd kk
    · cases h
  · cases h
theorem mv_heap_ok (hM : mv_MnaOk) (hR : 1 ≤ R.frames ∧ 40 ≤ R.locals) (hls : ls.size = nL) (S : CallFix p m c cc nL s args mv_Ts (mv_nm cls)) (hini : ini = true → meth.name = "<init>") (hX : mv_X D base b Ls xs cA s) (hb0 : base ≤ s.heap.size) {i : Instr} {n dc dk : Nat} {st st' : List Value} {w w' : mv_W}
    (h : mv_heap cls ini xs Ls i n st w = some (st', w', dc, dk)) (hd : decode cc pc = .ok (i, n)) (hP : va_P D vwCl (mv_tw base b cA w) H) (hS : va_S (fun q => base ≤ q) s.heap H locs) (hcw : s.heap.size + cells = base + w.length) (hc : cells + dc ≤ R.cells) (hk : slots + dk ≤ R.slots)
    (kk : ∀ (H' : Heap) (locs' : List Loc), va_P D vwCl (mv_tw base b cA w') H' → va_S (fun q => base ≤ q) s.heap H' locs' → W p l e R s m args below meth c H' locs' (cells + dc) (slots + dk) Q (F0 m (pc + n) ls (st'.map (mv_tv base b)))) :
    W p l e R s m args below meth c H locs cells slots Q (F0 m pc ls (st.map (mv_tv base b))) := by
  have S' := S
  obtain ⟨hx, hb, hml, hown, hts⟩ := S
  obtain ⟨hK, hN, hA, hXs, hbb⟩ := hX
  have hbA : ¬ base ≤ b := by omega
  have hbl : b < s.heap.size := by omega
  unfold mv_heap at h
  split at h
  · -- getfield
    split at h
    · rename_i ci k hl
      have hf := mv_l2_mem hl
      obtain ⟨hci, hkN, hdecl⟩ := mv_flds_ok _ hf
      dsimp only at hci hkN hdecl
      obtain ⟨c1, c2, c3, c4, c5⟩ := mv_cls_ok ci hci
      split at h
      · rename_i c' fs hw
        split at h
        · rename_i hcc
          have hcc := Nat.eq_of_beq_eq_true hcc
          subst hcc
          split at h
          · rename_i v hv
            cases h
            exact va_get (D := D) (C := (mv_cl c').1) (T := (mv_cl c').2.1) (N := (mv_cl c').2.2) hx hb hts c3 hown hK hP _ (mv_tw_get hw) c1 k hkN (hts _ (mv_in_fld hf)) (fun _ h9 => h9) (by rw [List.getElem?_map, hv]; rfl) hd (kk H locs hP hS)
          · cases h
        · cases h
      · cases h
    · cases h
  · -- putfield
    split at h
    · rename_i ci k hl
      have hf := mv_l2_mem hl
      split at h
      · rename_i c' fs hw
        split at h
        · rename_i hcc
          have hcc := Nat.eq_of_beq_eq_true hcc
          subst hcc
          split at h
          · rename_i v0 hv
            exact mv_put_ok S' hini hK h hf hw (List.getElem?_eq_some_iff.mp hv).1 hd hP hS kk
          · cases h
        · cases h
      · cases h
    · cases h
  · -- iaload
    split at h
    · rename_i m0 f hw
      split at h
      · cases h
      · rename_i hin
        cases h
        exact va_iald hx hb hK hP _ 0 (mv_tw_get hw) rfl hin hd (kk H locs hP hS)
    · cases h
  · -- the script
    split at h
    · cases h
    · rename_i hin
      cases h
      exact va_sld hx hb hXs hbl hbA hS hin hd (kk H locs hP hS)
  · -- laload
    split at h
    · rename_i m0 f hw
      split at h
      · cases h
      · rename_i hin
        cases h
        exact va_lald hx hb hK hP _ 1 (mv_tw_get hw) rfl hin hd (kk H locs hP hS)
    · cases h
  · -- aaload
    rename_i x a r
    split at h
    · rename_i m0 f hw
      split at h
      · cases h
      · rename_i hin
        cases h
        have hlt : x.toNatClampNeg < m0 := Nat.not_le.mp fun q => hin (Or.inr q)
        have e1 : mv_tv base b (va_rf (f x.toNatClampNeg)) = va_rf ((f x.toNatClampNeg).map (fun k => base + k)) := by cases f x.toNatClampNeg <;> rfl
        have kk := kk H locs hP hS
        rw [List.map_cons, e1] at kk
        exact W.aald (v := va_rf ((f x.toNatClampNeg).map (fun k => base + k))) (ty := .array .int) hx hb (hP _ _ (mv_tw_get hw)) ((hK.2 2 _ rfl).1 m0 (fun j => va_rf ((f j).map (fun k => base + k)))) rfl (fun q => by cases q) (by show ¬ (x < 0 ∨ (arrV _ _ _).slots.size ≤ _); rw [arrV_size]; exact hin) (by show (arrV (cA 2) m0 (fun j => va_rf ((f j).map (fun k => base + k)))).slots[x.toNatClampNeg]? = _; rw [arrV_read _ _ hlt]) rfl rfl hd kk
    · cases h
  · -- iastore
    split at h
    · rename_i m0 f hw
      split at h
      · cases h
      · rename_i hin
        cases h
        refine va_iast hx hb hK hP mv_tw_D hS _ 0 (mv_tw_get hw) rfl hin hd (fun H1 locs1 q1 q2 q3 => kk H1 locs1 ?_ q3)
        rw [← mv_tw_set]
        exact q1
    · cases h
  · -- lastore
    split at h
    · rename_i m0 f hw
      split at h
      · cases h
      · rename_i hin
        cases h
        refine va_last hx hb hK hP mv_tw_D hS _ 1 (mv_tw_get hw) rfl hin hd (fun H1 locs1 q1 q2 q3 => kk H1 locs1 ?_ q3)
        rw [← mv_tw_set]
        exact q1
    · cases h
  · cases h
    exact va_slen hx hb hXs hbl hbA hS hd (kk H locs hP hS)
  · split at h
    · rename_i v hv
      cases h
      exact lv_ldcw hx hb hown (hts _ (mv_in_ldc (mv_l2_mem hv))) hd (kk H locs hP hS)
    · cases h
  · split at h
    · rename_i v hv
      cases h
      exact lv_ldc2 hx hb hown (hts _ (mv_in_ldc2 (mv_l2_mem hv))) hd (kk H locs hP hS)
    · cases h
  · split at h
    · rename_i k0 hk0
      split at h
      · rename_i st2 hst2
        cases h
        exact mv_mf_ok S' hR hls hst2 (mv_l2_mem hk0) hd (by omega) (by omega) (kk H locs hP hS)
      · cases h
    · cases h
  · split at h
    · rename_i ci hci
      cases h
      exact mv_size hP hS hb0 hcw (fun hz => mv_new_ok S' hK (mv_l2_mem hci) hd hP hS hz hc hk kk)
    · cases h
  · split at h
    · cases h
    · rename_i hin
      cases h
      exact mv_size hP hS hb0 hcw (fun hz => mv_newa_ok (t := 0) (ty := .int) S' hK rfl rfl (fun _ h => by cases h) (hts _ (mv_in_last (by simp))) hd hP hS rfl hz (fun g => hin (Or.inl g)) (by have : ¬ 1048576 ≤ _ := fun g => hin (Or.inr g); show _ * 4 ≤ _; omega) hc hk kk)
  · split at h
    · cases h
    · rename_i hin
      cases h
      exact mv_size hP hS hb0 hcw (fun hz => mv_newa_ok (t := 1) (ty := .long) S' hK rfl rfl (fun _ h => by cases h) (hts _ (mv_in_last (by simp))) hd hP hS rfl hz (fun g => hin (Or.inl g)) (by have : ¬ 1048576 ≤ _ := fun g => hin (Or.inr g); show _ * 8 ≤ _; omega) hc hk kk)
  · split at h
    · rename_i hc4 hx9
      have hc4 := Nat.eq_of_beq_eq_true hc4
      have hx9 := Nat.eq_of_beq_eq_true hx9
      subst hc4 hx9
      split at h
      · cases h
      · rename_i hin
        cases h
        exact mv_size hP hS hb0 hcw (fun hz => hM _ _ _ _ _ _ _ _ _ _ _ _ _ _ _ _ _ _ _ _ _ _ _ _ _ _ _ _ _ S' ⟨hK, hN, hA, hXs, hbb⟩ hd hP hS hb0 hz (fun g => hin (Or.inl (Or.inl g))) (fun g => hin (Or.inl (Or.inr g))) (Nat.not_le.mp fun g => hin (Or.inr (Or.inl g))) (Nat.not_le.mp fun g => hin (Or.inr (Or.inr g))) hc hk kk)
    · cases h
  · cases h
end MV3
