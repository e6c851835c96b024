/-! classes and fields: what the tables say of them -/
theorem mv_cls_ok : ∀ (ci : Nat), ci < 7 → vwCl[ci]? = some (mv_cl ci) ∧ (mv_cl ci).1 = mv_nm ci ∧ (∀ w ∈ u_ws (mv_cl ci).1 (mv_cl ci).2.1 (mv_cl ci).2.2, w ∈ mv_Ts) ∧ (∀ k, k < (mv_cl ci).2.2 → parseFieldDescriptor ((mv_cl ci).2.1 k).2.2.1 = some (mv_ty ci k)) ∧ (∀ a, a < (mv_cl ci).2.2 → ∀ b, b < (mv_cl ci).2.2 → a ≠ b → ((mv_cl ci).2.1 a).2.1 ≠ ((mv_cl ci).2.1 b).2.1) := by
  intro ci h
  have hw : ∀ q ∈ vwCl, ∀ w ∈ u_ws q.1 q.2.1 q.2.2, w ∈ mv_Ts := by
    intro q hq w hw
    unfold mv_Ts
    simp only [List.mem_append]
    refine Or.inr (Or.inr (Or.inr (Or.inr (Or.inr (Or.inl ?_)))))
    exact List.mem_flatMap.mpr ⟨q, hq, hw⟩
  match ci, h with
  | 0, _ => exact ⟨rfl, rfl, hw _ (List.mem_of_getElem? (i := 0) rfl), tyX0_ok, nmX0⟩
  | 1, _ => exact ⟨rfl, rfl, hw _ (List.mem_of_getElem? (i := 1) rfl), tyX1_ok, nmX1⟩
  | 2, _ => exact ⟨rfl, rfl, hw _ (List.mem_of_getElem? (i := 2) rfl), tyX2_ok, nmX2⟩
  | 3, _ => exact ⟨rfl, rfl, hw _ (List.mem_of_getElem? (i := 3) rfl), tyX3_ok, nmX3⟩
  | 4, _ => exact ⟨rfl, rfl, hw _ (List.mem_of_getElem? (i := 4) rfl), tyX4_ok, nmX4⟩
  | 5, _ => exact ⟨rfl, rfl, hw _ (List.mem_of_getElem? (i := 5) rfl), tyX5_ok, nmX5⟩
  | 6, _ => exact ⟨rfl, rfl, hw _ (List.mem_of_getElem? (i := 6) rfl), tyX6_ok, nmX6⟩
theorem mv_flds_ok : ∀ f ∈ mv_flds, f.2.2.1 < 7 ∧ f.2.2.2 < (mv_cl f.2.2.1).2.2 ∧ ((mv_cl f.2.2.1).2.1 f.2.2.2).1 = mv_nm f.2.2.1 := by decide +kernel
theorem mv_news_ok : ∀ f ∈ mv_news, f.2.2 < 7 := by decide +kernel
theorem mv_tyok : ∀ ci, ci < 7 → ∀ k, k < (mv_cl ci).2.2 → (match mv_ty ci k with | .int => true | .object _ => true | .array _ => true | _ => false) = true := by decide +kernel
theorem mv_in_fld {f : Nat × Nat × Nat × Nat} (h : f ∈ mv_flds) : Cond.fieldLink (mv_nm f.1) f.2.1 ((mv_cl f.2.2.1).2.1 f.2.2.2).1 ((mv_cl f.2.2.1).2.1 f.2.2.2).2.1 ((mv_cl f.2.2.1).2.1 f.2.2.2).2.2.1 ∈ mv_Ts := by
  unfold mv_Ts
  exact List.mem_append_left _ (List.mem_map.mpr ⟨f, h, rfl⟩)
theorem mv_in5w {w : Cond} (h : w ∈ mv_Ts5) : w ∈ mv_Ts := by
  unfold mv_Ts
  simp only [List.mem_append]
  exact Or.inr (Or.inr (Or.inr (Or.inr (Or.inl h))))
theorem mv_in8w {w : Cond} (h : w ∈ mv_Ts8) : w ∈ mv_Ts := by
  unfold mv_Ts
  simp only [List.mem_append]
  exact Or.inr (Or.inr (Or.inr (Or.inr (Or.inr (Or.inr (Or.inr (Or.inl h)))))))
theorem mv_in9w {w : Cond} (h : w ∈ mv_Ts9) : w ∈ mv_Ts := by
  unfold mv_Ts
  simp only [List.mem_append]
  exact Or.inr (Or.inr (Or.inr (Or.inr (Or.inr (Or.inr (Or.inr (Or.inr h)))))))
theorem mv_in_math {f : Nat × Nat × Nat} (h : f ∈ mv_maths) : Cond.methodLink (mv_nm f.1) f.2.1 (mv_mn f.2.2) ∈ mv_Ts := mv_in8w (List.mem_append_left _ (List.mem_map.mpr ⟨f, h, rfl⟩))
theorem mv_in_new {f : Nat × Nat × Nat} (h : f ∈ mv_news) : Cond.classLink (mv_nm f.1) f.2.1 (mv_nm f.2.2) ∈ mv_Ts := mv_in5w (by
  unfold mv_Ts5
  simp only [List.mem_append]
  exact Or.inl (Or.inl (Or.inl (Or.inl (Or.inl (Or.inl (List.mem_map.mpr ⟨f, h, rfl⟩)))))))
theorem mv_in_inst {c : Nat} (h : c < 7) : Cond.instantiable (mv_nm c) (mv_cl c).2.2 ∈ mv_Ts := mv_in5w (by
  unfold mv_Ts5
  simp only [List.mem_append]
  exact Or.inl (Or.inl (Or.inl (Or.inl (Or.inl (Or.inr (List.mem_map.mpr ⟨c, List.mem_range.mpr h, rfl⟩)))))))
theorem mv_in_init {c : Nat} (h : c < 10) : Cond.initialized (mv_nm c) ∈ mv_Ts := mv_in5w (by
  unfold mv_Ts5
  simp only [List.mem_append]
  exact Or.inl (Or.inl (Or.inl (Or.inl (Or.inr (List.mem_map.mpr ⟨c, List.mem_range.mpr h, rfl⟩))))))
theorem mv_in_ldc {f : Nat × Nat × Int32} (h : f ∈ mv_ldcs) : Cond.constant (mv_nm f.1) f.2.1 f.2.2 ∈ mv_Ts := mv_in5w (by
  unfold mv_Ts5
  simp only [List.mem_append]
  exact Or.inl (Or.inl (Or.inl (Or.inr (List.mem_map.mpr ⟨f, h, rfl⟩)))))
theorem mv_in_ldc2 {f : Nat × Nat × Int64} (h : f ∈ mv_ldc2) : Cond.constantLong (mv_nm f.1) f.2.1 f.2.2 ∈ mv_Ts := mv_in5w (by
  unfold mv_Ts5
  simp only [List.mem_append]
  exact Or.inl (Or.inl (Or.inr (List.mem_map.mpr ⟨f, h, rfl⟩))))
theorem mv_in_obj {f : Nat × Nat} (h : f ∈ mv_objs) : Cond.methodLink (mv_nm f.1) f.2 objectInit ∈ mv_Ts := mv_in5w (by
  unfold mv_Ts5
  simp only [List.mem_append]
  exact Or.inl (Or.inr (List.mem_map.mpr ⟨f, h, rfl⟩)))
theorem mv_in_last {w : Cond} (h : w ∈ [Cond.instanceMethod objectInit, Cond.arrayClass .int, Cond.arrayClass .long, Cond.classLink "BagTrees$Orders" 9 "[[I"]) : w ∈ mv_Ts := mv_in5w (by
  unfold mv_Ts5
  simp only [List.mem_append]
  exact Or.inr h)
/-! the state at a method's start: classes, array classes, nest links, the script -/
def mv_tys (cA : Nat → ClassId) : List (ClassId × FieldType) := [(cA 0, .int), (cA 1, .long), (cA 2, .array .int)]
def mv_Nst (U : State) : Prop := ∀ q ∈ mv_nest, va_Nw (.methodLinkNest (mv_nm q.1) q.2.1 (mv_y q.2.2) "BagTrees") U
def mv_Ao (U : State) : Prop := (Cond.arrayOver (.array .int)).before #[] U = true
def mv_X (D : va_G) (base b Ls : Nat) (xs : Nat → Int32) (cA : Nat → ClassId) (U : State) : Prop := va_K D vwCl (mv_tys cA) U ∧ mv_Nst U ∧ mv_Ao U ∧ va_X b Ls xs U U.heap ∧ b < base
section MV2
variable {p : Program} {l : Launch} {e : Env} {R : Room} {s : State} {m : MethodId} {args : Array Value} {below : List Frame} {meth : Method} {c : Code} {H : Heap} {locs : List Loc} {cells slots : Nat} {Q : State → Prop} {cc : ByteArray} {pc : Nat} {ls : Array Slot} {base b : Nat} {D : va_G} {cA : Nat → ClassId} {xs : Nat → Int32} {Ls nL cls : Nat} {ini : Bool}
theorem mv_W_size {g : JFrame} (k : H.size ≤ s.heap.size + cells → W p l e R s m args below meth c H locs cells slots Q g) : W p l e R s m args below meth c H locs cells slots Q g :=
  fun T hT X => k (by rw [← hT]; exact X.heapSize) T hT X
theorem mv_P_size {w : mv_W} (hP : va_P D vwCl (mv_tw base b cA w) H) (h0 : base ≤ H.size) : base + w.length ≤ H.size := by
  cases hw : w with
  | nil => exact h0
  | cons x r =>
    have h1 : w[r.length]? = some (w[r.length]'(by rw [hw]; simp)) := List.getElem?_eq_getElem _
    have h2 := (hP r.length _ (mv_tw_get h1)).lt
    rw [List.length_cons]
    have h3 : base + r.length < H.size := h2
    omega
/-- the heap's size at a point of a run -/
theorem mv_size {w : mv_W} {g : JFrame} (hP : va_P D vwCl (mv_tw base b cA w) H) (hS : va_S (fun q => base ≤ q) s.heap H locs) (hb0 : base ≤ s.heap.size) (hcw : s.heap.size + cells = base + w.length)
    (k : H.size = base + w.length → W p l e R s m args below meth c H locs cells slots Q g) : W p l e R s m args below meth c H locs cells slots Q g :=
  mv_W_size (fun h => k (Nat.le_antisymm (by omega) (mv_P_size hP (Nat.le_trans hb0 hS.1))))
theorem mv_fits_ok {ty : FieldType} {v : Value} (h : mv_fits ty v = true) : narrow ty (mv_tv base b v) = mv_tv base b v ∧ fits ty (mv_tv base b v) = true := by
  unfold mv_fits at h
  split at h
  · exact ⟨rfl, rfl⟩
  · exact ⟨rfl, rfl⟩
  · exact ⟨rfl, rfl⟩
  · cases h
theorem mv_put_ok (S : CallFix p m c cc nL s args mv_Ts (mv_nm cls)) (hini : ini = true → meth.name = "<init>") (hK : va_K D vwCl (mv_tys cA) s) {x ci k a dc dk : Nat} {v : Value} {fs r st' : List Value} {w w' : mv_W}
    (h : mv_put cls ini ci k a v fs r w = some (st', w', dc, dk)) (hf : (cls, x, ci, k) ∈ mv_flds) (hw : w[a]? = some (.inr (ci, fs))) (hk : k < fs.length) (hd : decode cc pc = .ok (.putfield x, 3)) (hP : va_P D vwCl (mv_tw base b cA w) H) (hS : va_S (fun q => base ≤ q) s.heap H locs)
    (kk : ∀ (H' : Heap) (locs' : List Loc), va_P D vwCl (mv_tw base b cA w') H' → va_S (fun q => base ≤ q) s.heap H' locs' → W p l e R s m args below meth c H' locs' (cells + dc) (slots + dk) Q (F0 m (pc + 3) ls (st'.map (mv_tv base b)))) :
    W p l e R s m args below meth c H locs cells slots Q (F0 m pc ls ((v :: .ref a :: r).map (mv_tv base b))) := by
  obtain ⟨hx, hb, hml, hown, hts⟩ := S
  obtain ⟨hci, hkN, hdecl⟩ := mv_flds_ok _ hf
  dsimp only at hci hkN hdecl
  obtain ⟨c1, c2, c3, c4, c5⟩ := mv_cls_ok ci hci
  have hg := mv_tw_get (base := base) (b := b) (cA := cA) hw
  unfold mv_put at h
  split at h
  · rename_i hft
    obtain ⟨n1, n2⟩ := mv_fits_ok (base := base) (b := b) hft
    split at h
    · rename_i hfin
      cases h
      refine va_put (D := D) (C := (mv_cl ci).1) (T := (mv_cl ci).2.1) (N := (mv_cl ci).2.2) hx hb hts c3 (mv_ty ci) c4 c5 hown hK hP mv_tw_D hS a hg c1 k hkN (hts _ (mv_in_fld hf)) (fun _ h9 => h9) hfin (c4 k hkN) n1 n2 (by rw [List.length_map]; exact hk) hd (fun H1 locs1 q1 q2 q3 => ?_)
      refine kk H1 locs1 ?_ q3
      rw [← mv_tw_set]
      show va_P D vwCl ((mv_tw base b cA w).set a (base + a, .inr (ci, (fs.set k v).map (mv_tv base b)))) H1
      rw [List.map_set]
      exact q1
    · rename_i hfin
      split at h
      · rename_i hi hcc
        have hcc := Nat.eq_of_beq_eq_true hcc
        subst hcc
        cases h
        refine va_putF (D := D) (C := (mv_cl cls).1) (T := (mv_cl cls).2.1) (N := (mv_cl cls).2.2) hx hb hts c3 (mv_ty cls) c4 c5 hown hK hP mv_tw_D hS a hg c1 k hkN (hts _ (mv_in_fld hf)) (fun _ h9 => h9) hfin (hini rfl) hdecl (c4 k hkN) n1 n2 (by rw [List.length_map]; exact hk) hd (fun H1 locs1 q1 q2 q3 => ?_)
        refine kk H1 locs1 ?_ q3
        rw [← mv_tw_set]
        show va_P D vwCl ((mv_tw base b cA w).set a (base + a, .inr (cls, (fs.set k v).map (mv_tv base b)))) H1
        rw [List.map_set]
        exact q1
      · cases h
  · cases h
end MV2
