theorem mv_prog_ok : ∀ M ∈ mv_prog, M.2.1.cls = mv_nm M.1 ∧ (M.2.1.cls ≠ "java/lang/invoke/MethodHandle" ∧ M.2.1.cls ≠ "java/lang/invoke/VarHandle" ∧ (parseMethodDescriptor M.2.1.desc).map (fun d => d.parameters.length) = some M.2.2.2.2.2.2) ∧ M.1 < 10 ∧ M.2.2.2.1 ≤ 20 ∧ plainName M.2.1.cls = true ∧ (M.2.2.2.2.2.1 = 2 → M.2.1.name = "<init>" ∧ M.2.2.2.2.1 = none) := by decide +kernel
theorem mv_nest_ok : ∀ q ∈ mv_nest, ∀ M, mv_prog[q.2.2]? = some M → ¬ M.2.2.2.2.2.1 = 1 := by
  have h : ∀ q ∈ mv_nest, (match mv_prog[q.2.2]? with | some M => !(Nat.beq M.2.2.2.2.2.1 1) | none => true) = true := by decide +kernel
  intro q hq M hM e
  have := h q hq
  rw [hM] at this
  dsimp only at this
  rw [e] at this
  cases this
def mv_ws (M : mv_T) : List Cond := .code M.2.1 M.2.2.1 M.2.2.2.1 M.2.2.2.2.1 :: mv_Ts
def mv_rm (d mc ms : Nat) : Room := { frames := d, cells := mc, slots := ms, locals := d * 40 }
theorem mv_in_code {M : mv_T} (h : M ∈ mv_prog) : Cond.code M.2.1 M.2.2.1 M.2.2.2.1 M.2.2.2.2.1 ∈ mv_Ts := by
  unfold mv_Ts
  simp only [List.mem_append]
  exact Or.inr (Or.inr (Or.inl (List.mem_map.mpr ⟨M, h, rfl⟩)))
theorem mv_in_kw {M : mv_T} (h : M ∈ mv_prog) {w : Cond} (hw : w ∈ mv_kw M) : w ∈ mv_Ts := by
  unfold mv_Ts
  simp only [List.mem_append]
  exact Or.inr (Or.inr (Or.inr (Or.inl (List.mem_flatMap.mpr ⟨M, h, hw⟩))))
theorem mv_in_mth {f : Nat × Nat × Nat} (h : f ∈ mv_mths) : Cond.methodLink (mv_nm f.1) f.2.1 (mv_y f.2.2) ∈ mv_Ts := by
  unfold mv_Ts
  simp only [List.mem_append]
  exact Or.inr (Or.inl (List.mem_map.mpr ⟨f, h, rfl⟩))
theorem mv_good {ws : List Cond} (h : ∀ w ∈ ws, w ∈ mv_Ts) : GoodIn mv_Ts ws := fun w hw => ⟨h w hw, good_of_word (List.all_eq_true.mp mv_ok w (h w hw))⟩
theorem mv_good_ws {M : mv_T} (h : M ∈ mv_prog) : ∀ w ∈ mv_ws M, w ∈ mv_Ts := fun w hw => by
  rcases List.mem_cons.mp hw with e | e
  · rw [e]; exact mv_in_code h
  · exact e
theorem mv_y_eq {j : Nat} {M : mv_T} (h : mv_prog[j]? = some M) : mv_y j = M.2.1 := by simp [mv_y, h]
theorem mv_Ao.moved {u U : State} (hvm : u.vm.Alike U.vm) (h : mv_Ao u) : mv_Ao U := by
  obtain ⟨comp, c, k, h1, h2, h3, h4, h5⟩ := arrayOverA_spec h
  obtain ⟨k', hk', he⟩ := hvm.2.2 _ _ h3
  have e1 := va_idx_bare U.vm comp
  have e2 := va_idx_bare u.vm comp
  have e3 : U.vm.bare = u.vm.bare := by first | exact hvm.bare_eq | exact hvm.bare_eq.symm
  rw [e3] at e1
  have hi := (e1.symm.trans e2).trans h2
  have hkind : k'.kind = .array comp (.array .int) := by rw [he]; exact h4
  have f1 : U.vm.findClass (FieldType.array .int).toString = some comp := by rw [hvm.findClass]; exact h1
  have f2 : U.vm.findClass ("[" ++ (FieldType.array .int).toString) = some c := by rw [hvm.findClass]; exact h5
  unfold mv_Ao Cond.before Cond.holds
  simp only [Cond.value]
  rw [f1, Option.bind_some]
  refine (congrArg (fun o : Option Nat => (o.bind (fun c => (U.vm.classes[c]?).map fun (k : Class) => match k.kind with | .array _ ty => decide (ty = FieldType.array .int) && decide (U.vm.findClass ("[" ++ (FieldType.array .int).toString) = some c) | _ => false) == some true)) hi).trans ?_
  simp [hk', hkind, f2]
def mv_Pre (D : va_G) (base b Ls : Nat) (xs : Nat → Int32) (cA : Nat → ClassId) (w : mv_W) (U : State) : Prop := va_P D vwCl (mv_tw base b cA w) U.heap ∧ U.heap.size = base + w.length ∧ mv_X D base b Ls xs cA U
def mv_Qc (D : va_G) (base b : Nat) (cA : Nat → ClassId) (r : Option Value) (w : mv_W) : Array Value → State → Outcome → State → Prop := fun _ st o t => o = .returned (r.map (mv_tv base b)) ∧ va_P D vwCl (mv_tw base b cA w) t.heap ∧ va_F (fun q => base ≤ q) st t
def mv_Con (l : Launch) (D : va_G) (base b Ls : Nat) (xs : Nat → Int32) (cA : Nat → ClassId) (d : Nat) (M : mv_T) (as : List Value) (w : mv_W) (r : Option Value) (w' : mv_W) (mc ms : Nat) : Prop :=
  Met l M.2.1 (mv_ws M) (mv_rm d mc ms) (va_Pc (as.map (mv_tv base b)) (mv_Pre D base b Ls xs cA w)) (mv_Qc D base b cA r w') mc ms (fun q => base ≤ q)
def mv_Ok (l : Launch) (D : va_G) (base b Ls : Nat) (xs : Nat → Int32) (cA : Nat → ClassId) (d : Nat) (call : mv_C) : Prop := ∀ (j : Nat) (as : List Value) (w : mv_W) (r : Option Value) (w' : mv_W) (mc ms : Nat) (M : mv_T), mv_prog[j]? = some M → call j as w = some (r, w', mc, ms) → mv_Con l D base b Ls xs cA d M as w r w' mc ms
theorem mv_X.moved {D : va_G} {base b Ls : Nat} {xs : Nat → Int32} {cA : Nat → ClassId} {u U : State} (hw : u.WarmedH U.vm) (hk : U.heap[b]? = u.heap[b]?) (h : mv_X D base b Ls xs cA u) : mv_X D base b Ls xs cA U := by
  obtain ⟨h1, h2, h3, h4, h5⟩ := h
  exact ⟨va_K.moved hw.alike h1, fun q hq => va_Nw.warmM hw (h2 q hq), mv_Ao.moved hw.alike h3, (h4.moved hw.alike).kept hk, h5⟩
theorem mv_blind {D : va_G} {base b Ls : Nat} {xs : Nat → Int32} {cA : Nat → ClassId} {w : mv_W} {av : List Value} : FrameBlind (va_Pc av (mv_Pre D base b Ls xs cA w)) := by
  intro a U g mk q
  obtain ⟨q0, q1, q2, q3, q4, q5, q6, q7⟩ := q
  exact ⟨q0, q1, q2, va_K.moved (u := U) (U := U.calling g mk a) (Vm.Alike.refl U.vm) q3, fun q hq => va_Nw.same rfl (u := U) rfl (q4 q hq), mv_Ao.moved (u := U) (U := U.calling g mk a) (Vm.Alike.refl U.vm) q5, q6.moved (u := U) (U := U.calling g mk a) (Vm.Alike.refl U.vm), q7⟩
section MV4
variable {p : Program} {l : Launch} {e : Env} {R : Room} {s : State} {m : MethodId} {args : Array Value} {below : List Frame} {meth : Method} {c : Code} {H : Heap} {locs : List Loc} {cells slots : Nat} {Q : State → Prop} {cc : ByteArray} {pc : Nat} {ls : Array Slot} {base b : Nat} {D : va_G} {cA : Nat → ClassId} {xs : Nat → Int32} {Ls nL cls : Nat}
theorem mv_go {mc ms : Nat} {st0 rest : List Value} {r : Option Value} {w' : mv_W} {a : Array Value} (hr : va_Run p l e R s m args below meth c H locs cells slots mc ms (F0 m pc ls st0) rest (mv_Qc D base b cA r w' a) (fun q => base ≤ q)) (hS : va_S (fun q => base ≤ q) s.heap H locs)
    (kk : ∀ (H1 : Heap) (locs1 : List Loc), va_P D vwCl (mv_tw base b cA w') H1 → va_S (fun q => base ≤ q) s.heap H1 locs1 → W p l e R s m args below meth c H1 locs1 (cells + mc) (slots + ms) Q (F0 m (pc + 3) ls ((r.map (mv_tv base b)).toList ++ rest))) : W p l e R s m args below meth c H locs cells slots Q (F0 m pc ls st0) := by
  intro T hT X
  obtain ⟨v, st₀, t, T', L, h0, X', hL, e1, e2, ⟨hv, hP', hz, hk⟩, st⟩ := hr T hT X
  have hv : v = r.map (mv_tv base b) := by cases hv; rfl
  subst hv
  rw [h0] at hz hk
  obtain ⟨t2, a1, b1⟩ := kk T'.heap (locs ++ L) (by rw [e1]; exact hP')
    ⟨Nat.le_trans hS.1 (by rw [e1]; exact hz), fun q h1 h2 => by rw [e1, hk q (Nat.lt_of_lt_of_le h1 hS.1) h2]; exact hS.2.1 q h1 h2, fun q hq => by
      rcases List.mem_append.mp hq with h | h
      · exact hS.2.2 q h
      · exact hL q h⟩ T' rfl X'
  exact ⟨t2, st t2 a1, b1⟩
theorem mv_PreU {w : mv_W} (hX : mv_X D base b Ls xs cA s) (hb0 : base ≤ s.heap.size) (hP : va_P D vwCl (mv_tw base b cA w) H) (hS : va_S (fun q => base ≤ q) s.heap H locs) (hz : H.size = base + w.length) : ∀ U : State, U.heap = H → s.WarmedH U.vm → mv_Pre D base b Ls xs cA w U := by
  intro U hU hW
  have hbb := hX.2.2.2.2
  refine ⟨by rw [hU]; exact hP, by rw [hU]; exact hz, hX.moved hW ?_⟩
  rw [hU]
  exact hS.2.1 b (by omega) (by omega)
theorem mv_out_ok {rest st' : List Value} {o : Option mv_R} {w' : mv_W} {dc dk : Nat} (h : mv_out rest o = some (st', w', dc, dk)) : ∃ v, o = some (v, w', dc, dk) ∧ (rest.map fun v => v.category).sum ≤ 8 ∧ st' = v.toList ++ rest := by
  unfold mv_out at h
  split at h
  · split at h
    · rename_i hb
      cases h
      exact ⟨_, rfl, Nat.le_of_ble_eq_true hb, rfl⟩
    · cases h
  · cases h
theorem mv_catsum (rest : List Value) : ((rest.map (mv_tv base b)).map fun v => v.category).sum = (rest.map fun v => v.category).sum := by
  rw [List.map_map]
  congr 1
  apply List.map_congr_left
  intro v _
  exact mv_tv_cat base b v
theorem mv_lnk_ok {d : Nat} (S : CallFix p m c cc nL s args mv_Ts (mv_nm cls)) (hX : mv_X D base b Ls xs cA s) (hb0 : base ≤ s.heap.size) (hR : d + 1 ≤ R.frames ∧ (d + 1) * 40 ≤ R.locals) (hls : ls.size = nL) {call : mv_C} (hcall : mv_Ok l D base b Ls xs cA d call) {kd x dc dk : Nat} {st st' : List Value} {w w' : mv_W}
    (h : mv_lnk kd call cls x st w = some (st', w', dc, dk)) (hP : va_P D vwCl (mv_tw base b cA w) H) (hS : va_S (fun q => base ≤ q) s.heap H locs) (hz : H.size = base + w.length) (hf : cells + dc ≤ R.cells ∧ slots + dk ≤ R.slots)
    (hd : (kd = 1 ∧ decode cc pc = .ok (.invokevirtual x, 3)) ∨ (kd = 0 ∧ decode cc pc = .ok (.invokestatic x, 3)) ∨ (kd = 2 ∧ decode cc pc = .ok (.invokespecial x, 3)))
    (kk : ∀ (H' : Heap) (locs' : List Loc), va_P D vwCl (mv_tw base b cA w') H' → va_S (fun q => base ≤ q) s.heap H' locs' → W p l e R s m args below meth c H' locs' (cells + dc) (slots + dk) Q (F0 m (pc + 3) ls (st'.map (mv_tv base b)))) :
    W p l e R s m args below meth c H locs cells slots Q (F0 m pc ls (st.map (mv_tv base b))) := by
  have S' := S
  obtain ⟨hx, hb, hml, hown, hts⟩ := S
  unfold mv_lnk at h
  split at h
  · rename_i j hj
    split at h
    · rename_i M hM
      have hmem : M ∈ mv_prog := List.mem_of_getElem? hM
      obtain ⟨m1, m2, m3, m4, m5, m6⟩ := mv_prog_ok M hmem
      have hy := mv_y_eq hM
      have hroom : (mv_rm d dc dk).frames + 1 ≤ R.frames ∧ 8 + (M.2.2.2.1 + 11) + (mv_rm d dc dk).locals ≤ R.locals := ⟨hR.1, by show 8 + (M.2.2.2.1 + 11) + d * 40 ≤ R.locals; have := hR.2; omega⟩
      have hini : (Cond.initialized M.2.1.cls).before args s = true := by rw [m1]; exact hts _ (mv_in_init m3)
      -- the link: plain, or of a nest mate
      have hlink : Cond.methodLink (mv_nm cls) x M.2.1 ∈ mv_Ts ∨ ((cls, x, j) ∈ mv_nest ∧ va_Nw (.methodLinkNest (mv_nm cls) x M.2.1 "BagTrees") s) := by
        split at hj
        · rename_i j' hj'
          cases hj
          have := mv_in_mth (mv_l2_mem hj')
          dsimp only at this
          rw [hy] at this
          exact Or.inl this
        · have h2 := mv_l2_mem hj
          have h3 := hX.2.1 _ h2
          dsimp only at h3
          rw [hy] at h3
          exact Or.inr ⟨h2, h3⟩
      split at h
      · rename_i hkd
        have hkd := Nat.eq_of_beq_eq_true hkd
        unfold mv_do at h
        split at h
        · cases h
        · rename_i hlenb
          have hlen := Nat.eq_of_beq_eq_true hlenb
          clear hlenb
          have hsplit : st = st.take M.2.2.2.2.2.2 ++ st.drop M.2.2.2.2.2.2 := (List.take_append_drop _ _).symm
          generalize hna : M.2.2.2.2.2.2 = na at h hlen hsplit m2
          generalize hT : st.take na = tk at h hlen hsplit
          generalize hDr : st.drop na = dr at h hsplit
          subst hsplit
          split at h
          · -- static
            rename_i dr k1 k0 hk0
            obtain ⟨v, h1, h2, rfl⟩ := mv_out_ok h
            have hC := hcall _ _ _ _ _ _ _ M hM h1
            have hkd0 : kd = 0 := by omega
            have hd0 : decode cc pc = .ok (.invokestatic x, 3) := by rcases hd with g | g | g <;> first | exact g.2 | (have := g.1; omega)
            have hst : Cond.static M.2.1 ∈ mv_Ts := mv_in_kw hmem (by unfold mv_kw; rw [hk0]; exact List.mem_cons_self)
            have hp : PreS s H (va_Pc (tk.reverse.map (mv_tv base b)) (mv_Pre D base b Ls xs cA w)) (tk.reverse.map (mv_tv base b)) := ⟨mv_blind, fun U hU hW => ⟨rfl, mv_PreU hX hb0 hP hS hz U hU hW⟩⟩
            have hstk : (F0 m pc ls ((tk ++ dr).map (mv_tv base b))).stack = (tk.reverse.map (mv_tv base b)).reverse ++ dr.map (mv_tv base b) := by
              show (tk ++ dr).map (mv_tv base b) = _
              rw [List.map_append, List.map_reverse, List.reverse_reverse]
            have hrm : 2 * (F0 m pc ls ((tk ++ dr).map (mv_tv base b))).monitorRoom + ((dr.map (mv_tv base b)).map fun v => v.category).sum ≤ 8 := by
              rw [mv_catsum]; show 2 * 0 + _ ≤ 8; omega
            have hln : (tk.reverse.map (mv_tv base b)).length = na := by simp [hlen]
            have kk2 : ∀ (H1 : Heap) (locs1 : List Loc), va_P D vwCl (mv_tw base b cA w') H1 → va_S (fun q => base ≤ q) s.heap H1 locs1 → W p l e R s m args below meth c H1 locs1 (cells + dc) (slots + dk) Q (F0 m (pc + 3) ls ((v.map (mv_tv base b)).toList ++ dr.map (mv_tv base b))) := fun H1 locs1 a1 a2 => by
              have := kk H1 locs1 a1 a2
              rw [List.map_append] at this
              cases v <;> exact this
            rcases hlink with hl | ⟨-, hl⟩
            · exact mv_go (va_runS S' hC (va_cwS na hts (mv_good (fun w hw => by
                rcases List.mem_append.mp hw with g | g
                · simp only [List.mem_cons, List.not_mem_nil, or_false] at g
                  rcases g with g | g | g
                  · rw [g]; exact hl
                  · rw [g]; exact hst
                  · rw [g, m1]; exact mv_in_init m3
                · exact mv_good_ws hmem w g)) rfl rfl rfl m2 hroom) hp rfl hln hls hstk hrm hd0 hf) hS kk2
            · exact mv_go (va_runSN S' hC ⟨va_cnB na hts (mv_good (mv_good_ws hmem)) rfl rfl rfl hl hini m2 hroom, hts _ hst, trivial⟩ hp rfl hln hls hstk hrm hd0 hf) hS kk2
          · -- on an object
            rename_i k0 a0 rest hk0
            split at h
            · rename_i c' fs hw
              split at h
              · rename_i hcc
                have hcc := Nat.eq_of_beq_eq_true hcc
                subst hcc
                obtain ⟨v, h1, h2, rfl⟩ := mv_out_ok h
                have hC := hcall _ _ _ _ _ _ _ M hM h1
                have hkd1 : kd = 1 := by omega
                have hd1 : decode cc pc = .ok (.invokevirtual x, 3) := by rcases hd with g | g | g <;> first | exact g.2 | (have := g.1; omega)
                have hin : Cond.instanceMethod M.2.1 ∈ mv_Ts := mv_in_kw hmem (by unfold mv_kw; rw [hk0]; exact List.mem_cons_self)
                have hse : Cond.selects (mv_nm M.1) M.2.1 M.2.1 ∈ mv_Ts := mv_in_kw hmem (by unfold mv_kw; rw [hk0]; exact List.mem_cons_of_mem _ List.mem_cons_self)
                have hc7 : M.1 < 7 := by
                  obtain ⟨r9, h9, -⟩ := hP _ _ (mv_tw_get hw)
                  have := (List.getElem?_eq_some_iff.mp h9).1
                  exact this
                obtain ⟨c1, c2, c3, c4, c5⟩ := mv_cls_ok M.1 hc7
                have hrc := va_recv hX.1 hP c1 (mv_tw_get hw)
                rw [c2] at hrc
                have hp : PreV s H (mv_nm M.1) (base + a0) (va_Pc ((.ref a0 :: tk.reverse).map (mv_tv base b)) (mv_Pre D base b Ls xs cA w)) (tk.reverse.map (mv_tv base b)) := ⟨mv_blind, hrc, fun U hU hW => ⟨rfl, mv_PreU hX hb0 hP hS hz U hU hW⟩⟩
                have hstk : (F0 m pc ls ((tk ++ .ref a0 :: rest).map (mv_tv base b))).stack = (tk.reverse.map (mv_tv base b)).reverse ++ .ref (base + a0) :: rest.map (mv_tv base b) := by
                  show (tk ++ .ref a0 :: rest).map (mv_tv base b) = _
                  rw [List.map_append, List.map_reverse, List.reverse_reverse]
                  rfl
                have hrm : 2 * (F0 m pc ls ((tk ++ .ref a0 :: rest).map (mv_tv base b))).monitorRoom + ((rest.map (mv_tv base b)).map fun v => v.category).sum ≤ 8 := by
                  rw [mv_catsum]; show 2 * 0 + _ ≤ 8; omega
                have hln : (tk.reverse.map (mv_tv base b)).length = na := by simp [hlen]
                have kk2 : ∀ (H1 : Heap) (locs1 : List Loc), va_P D vwCl (mv_tw base b cA w') H1 → va_S (fun q => base ≤ q) s.heap H1 locs1 → W p l e R s m args below meth c H1 locs1 (cells + dc) (slots + dk) Q (F0 m (pc + 3) ls ((v.map (mv_tv base b)).toList ++ rest.map (mv_tv base b))) := fun H1 locs1 a1 a2 => by
                  have := kk H1 locs1 a1 a2
                  rw [List.map_append] at this
                  cases v <;> exact this
                rcases hlink with hl | ⟨hl, -⟩
                · exact mv_go (va_runV S' hC (cwV na hts (mv_good (fun w hw => by
                    rcases List.mem_append.mp hw with g | g
                    · simp only [List.mem_cons, List.not_mem_nil, or_false] at g
                      rcases g with g | g | g | g
                      · rw [g]; exact hl
                      · rw [g]; exact hin
                      · rw [g]; exact hse
                      · rw [g]; exact mv_in_init m3
                    · exact mv_good_ws hmem w g)) rfl rfl rfl ⟨m1, m2⟩ hroom) hp rfl hln hls hstk hrm hd1 hf) hS kk2
                · exact absurd hk0 (mv_nest_ok _ hl M hM)
              · cases h
            · cases h
          · -- a constructor
            rename_i k0 a0 rest hk0
            obtain ⟨v, h1, h2, rfl⟩ := mv_out_ok h
            have hC := hcall _ _ _ _ _ _ _ M hM h1
            have hkd2 : kd = 2 := by omega
            have hd2 : decode cc pc = .ok (.invokespecial x, 3) := by rcases hd with g | g | g <;> first | exact g.2 | (have := g.1; omega)
            have hin : Cond.instanceMethod M.2.1 ∈ mv_Ts := mv_in_kw hmem (by unfold mv_kw; rw [hk0]; exact List.mem_cons_self)
            obtain ⟨m7, m8⟩ := m6 hk0
            have hp : PreS s H (va_Pc ((.ref a0 :: tk.reverse).map (mv_tv base b)) (mv_Pre D base b Ls xs cA w)) (.ref (base + a0) :: tk.reverse.map (mv_tv base b)) := ⟨mv_blind, fun U hU hW => ⟨rfl, mv_PreU hX hb0 hP hS hz U hU hW⟩⟩
            have hstk : (F0 m pc ls ((tk ++ .ref a0 :: rest).map (mv_tv base b))).stack = (tk.reverse.map (mv_tv base b)).reverse ++ .ref (base + a0) :: rest.map (mv_tv base b) := by
              show (tk ++ .ref a0 :: rest).map (mv_tv base b) = _
              rw [List.map_append, List.map_reverse, List.reverse_reverse]
              rfl
            have hrm : 2 * (F0 m pc ls ((tk ++ .ref a0 :: rest).map (mv_tv base b))).monitorRoom + ((rest.map (mv_tv base b)).map fun v => v.category).sum ≤ 8 := by
              rw [mv_catsum]; show 2 * 0 + _ ≤ 8; omega
            have hln : (tk.reverse.map (mv_tv base b)).length = na := by simp [hlen]
            have kk2 : ∀ (H1 : Heap) (locs1 : List Loc), va_P D vwCl (mv_tw base b cA w') H1 → va_S (fun q => base ≤ q) s.heap H1 locs1 → W p l e R s m args below meth c H1 locs1 (cells + dc) (slots + dk) Q (F0 m (pc + 3) ls ((v.map (mv_tv base b)).toList ++ rest.map (mv_tv base b))) := fun H1 locs1 a1 a2 => by
              have := kk H1 locs1 a1 a2
              rw [List.map_append] at this
              cases v <;> exact this
            have hws : mv_ws M = Cond.code M.2.1 M.2.2.1 M.2.2.2.1 none :: mv_Ts := by unfold mv_ws; rw [m8]
            rcases hlink with hl | ⟨-, hl⟩
            · exact mv_go (va_runI S' hC (cwI na hts (mv_good (mv_good_ws hmem)) hws rfl rfl hini (hts _ hl) (hts _ hin) m7 m2 hroom) hp rfl hln hls hstk hrm hd2 hf) hS kk2
            · exact mv_go (va_runIN S' hC ⟨va_cnB na hts (mv_good (mv_good_ws hmem)) hws rfl rfl hl hini m2 hroom, m7, hts _ hin⟩ hp rfl hln hls hstk hrm hd2 hf) hS kk2
          · cases h
      · cases h
    · cases h
  · cases h
end MV4
