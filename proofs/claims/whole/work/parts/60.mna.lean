theorem mv_outer (c : ClassId) (N h0 : Nat) : ∀ i : Nat, Jvm.Free.Multi.outerC c N h0 i = arrV c N (fun j => va_rf (if j < i then some (h0 + 1 + j) else none))
  | 0 => by
    show ({ cls := c, slots := Array.replicate N .null, vm := .none } : Cell) = _
    rw [arrV_new]
    refine congrArg (arrV c N) (funext fun j => ?_)
    simp [va_rf]
  | i + 1 => by
    show (Jvm.Free.Multi.outerC c N h0 i).setSlot i (.ref (h0 + 1 + i)) = _
    rw [mv_outer c N h0 i, arrV_store]
    refine congrArg (arrV c N) (funext fun j => ?_)
    by_cases e : j = i
    · subst e
      simp [updV, va_rf]
    · by_cases h : j < i
      · simp [updV, e, h, Nat.lt_succ_of_lt h]
      · simp [updV, e, h, show ¬ j < i + 1 by omega]
/-- new int[n][k] -/
theorem mv_mna : mv_MnaOk := by
  intro p l e R s m args below meth c H locs cells slots Q cc pc ls base b D cA xs Ls nL w k n r S hX hd hP hS hb0 hz hk hn hk2 hn2 hc hs kk
  obtain ⟨hx, hb, hml, hown, hts⟩ := S
  obtain ⟨hK, hN, hA, hXs, hbb⟩ := hX
  intro T hT Xs
  have harr : (Cond.arrayClass .int).before args s = true := hts _ (mv_in_last (by simp))
  have hcl : (Cond.classLink (mv_nm 4) 9 ("[" ++ (FieldType.array .int).toString)).before args s = true := hts (Cond.classLink "BagTrees$Orders" 9 "[[I") (mv_in_last (by simp))
  obtain ⟨vm₁, cB, comp, -, fA, fC, hO, -, X', step⟩ := Xs.multianewarray2F hx (ty := .int) hown hcl hA harr (g := F0 m pc ls (.int k :: .int n :: r)) rfl (by rw [hb]; exact hd) rfl hn hk (by omega) (by show _ * 4 ≤ _; omega) (by omega) rfl rfl hc hs
  have e2 : cB = cA 2 := Option.some.inj (fA.symm.trans (hK.2 2 _ rfl).2)
  have e0 : comp = cA 0 := Option.some.inj (fC.symm.trans (hK.2 0 _ rfl).2)
  subst e2 e0
  generalize hF : Jvm.Free.Multi.fill (T.setVm vm₁) (cA 2) (cA 0) n.toNatClampNeg k.toNatClampNeg (defaultValue .int) n.toNatClampNeg = F at X' step
  have hTh : (T.setVm vm₁).heap = H := hT
  obtain ⟨f1, f2, -, -⟩ := Jvm.Free.Multi.fill_facts (T.setVm vm₁) (cA 2) (cA 0) n.toNatClampNeg k.toNatClampNeg (defaultValue .int) n.toNatClampNeg
  rw [hF, hTh] at f1 f2
  have hold : ∀ x : Nat, x < H.size → F.heap[x]? = H[x]? := fun x hx => by
    have := Jvm.Free.Multi.fill_old (T.setVm vm₁) (cA 2) (cA 0) n.toNatClampNeg k.toNatClampNeg (defaultValue .int) (a := x) (by rw [hTh]; exact hx) n.toNatClampNeg
    rw [hF, hTh] at this
    exact this
  have hrow : ∀ j : Nat, j < n.toNatClampNeg → F.heap[H.size + 1 + j]? = some (vp_cell (cA 0) (k.toNatClampNeg, .inl (fun _ => 0))) := fun j hj => by
    have := Jvm.Free.Multi.fill_inner (T.setVm vm₁) (cA 2) (cA 0) n.toNatClampNeg k.toNatClampNeg (defaultValue .int) n.toNatClampNeg j hj
    rw [hF, hTh] at this
    rw [this, vp_cell_i, ← arrV_new]
    rfl
  rw [mv_outer] at f2
  have hP' : va_P D vwCl (mv_tw base b cA ((w ++ [.inl (2, n.toNatClampNeg, .inr (.inr (.inr (.inr (fun j => if j < n.toNatClampNeg then some (w.length + 1 + j) else none)))))]) ++ List.replicate n.toNatClampNeg (.inl (0, k.toNatClampNeg, .inl (fun _ => 0))))) F.heap := by
    intro q x hq
    rw [mv_tw_at] at hq
    by_cases h1 : q < w.length
    · rw [List.getElem?_append_left (by simp; omega), List.getElem?_append_left h1] at hq
      have hq2 : (mv_tw base b cA w)[q]? = some x := by rw [mv_tw_at]; exact hq
      exact (hP q x hq2).kept (hold x.1 ((hP q x hq2).lt))
    · by_cases h2 : q = w.length
      · subst h2
        rw [List.getElem?_append_left (by simp), List.getElem?_append_right (Nat.le_refl _), Nat.sub_self] at hq
        cases hq
        show F.heap[base + w.length]? = some (vp_cell (cA 2) (n.toNatClampNeg, .inr (.inr (.inr (.inr (fun j => (if j < n.toNatClampNeg then some (w.length + 1 + j) else none).map (fun k => base + k)))))))
        rw [← hz, f2, vp_cell_q]
        congr 2
        funext j
        by_cases hj : j < n.toNatClampNeg
        · simp only [hj, if_true, Option.map_some]
          congr 2
          omega
        · simp only [hj, if_false, Option.map_none]
      · rw [List.getElem?_append_right (by simp; omega), List.getElem?_replicate] at hq
        simp only [List.length_append, List.length_cons, List.length_nil] at hq
        split at hq
        · rename_i h3
          cases hq
          have := hrow (q - (w.length + (0 + 1))) h3
          show F.heap[base + q]? = some (vp_cell (cA 0) (k.toNatClampNeg, .inl (fun _ => 0)))
          rw [show base + q = H.size + 1 + (q - (w.length + (0 + 1))) by omega]
          exact this
        · cases hq
  have kk := kk F.heap locs hP' ⟨by rw [f1]; have := hS.1; omega, fun x h1 h2 => (hold x (Nat.lt_of_lt_of_le h1 hS.1)).trans (hS.2.1 x h1 h2), hS.2.2⟩
  rw [show cells + (1 + n.toNatClampNeg) = cells + 1 + n.toNatClampNeg by omega, show slots + (n.toNatClampNeg + n.toNatClampNeg * k.toNatClampNeg) = slots + n.toNatClampNeg + n.toNatClampNeg * k.toNatClampNeg by omega] at kk
  obtain ⟨t, a1, b1⟩ := kk F rfl X'
  refine ⟨t, step t ?_, b1⟩
  have e : T.heap.size = base + w.length := by rw [hT]; exact hz
  rw [e]
  exact a1
