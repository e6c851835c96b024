/-! THE CLAIM OUT OF ONE WALK OF THE LAW'S BODY. Your part is whole_start (and what it stands on); all else here is the same for every law, but numbers. -/
def R_law : String := "BagTreesLaw"
def lw_P (b : Addr) (xs : List Int32) (args : Array Value) (s : State) : Prop := args = #[.ref b] ∧ s.IntsAt b xs ∧ xs.length ≤ 1536 ∧ (Jvm.Cond.and given_1 narrow_1).before args s = true
def lw_Q (_ : Array Value) (s : State) (o : Outcome) (t : State) : Prop := o = .returned (some (.int 1)) ∧ Framed s o t [] 600000 7302250
def lw_Z (below : List Frame) (a : Array Value) (s : State) : State → Prop := fun t => ∃ o, t.status = .running ∧ Ended t below o ∧ lw_Q a s o t
/-- the law's own end, with 1 on the stack, nothing written that was there before, its room as the claim has it -/
theorem lw_ret {p : Program} {l : Launch} {e : Env} {s : State} {m : MethodId} {below : List Frame} {meth : Method} {c : Code} {b : Nat} (hx : p.tables.exec = Jvm.exec) (hb : c.code = code) (hr : meth.sig.returnType = ret) (hlocks : meth.locks = false) {pc : Nat} {H : Heap} {ls : Array Slot} (hdg : decode code pc = .ok (.ireturn, 1)) : W p l e room_1 s m #[Value.ref b] below meth c H [] 600000 7302250 (lw_Z below #[Value.ref b] s) (F0 m pc ls [.int 1]) := by
  intro T hT X
  obtain ⟨fs, hret, hrun, hended, hW, hframe⟩ := X.leave (v := some (.int 1)) (hlocks := hlocks) (fun h => by rw [hr] at h; cases h)
  have hmeth' : T.vm.method? m = some meth := X.method'
  refine ⟨T.setFrames fs, ?_, .returned (some (.int 1)), hrun, hended, rfl, ⟨_, rfl⟩, hW, hframe⟩
  jvm_step X.here [X.here.top, hx, hb, hdg, hmeth', hr, ret, narrow_b1]
  (try refine ⟨rfl, ?_⟩); (try refine ⟨rfl, ?_⟩)
  first | (intro acts; rw [hret _ acts rfl rfl rfl]) | rw [hret _ _ rfl rfl rfl]
  exact Steps.refl _
/-- what holds at the law's entry: the machine, the code, the tables' words (any of lw_tbl by 'hts w (by decide +kernel)'), the script of L ints xs at the cell b, what the Statement gives of the start (any of its parts by flat_of_before) -/
def lw_At (p : Program) (s : State) (m : MethodId) (meth : Method) (c : Code) (b L : Nat) (xs : Nat → Int32) : Prop :=
  p.tables.exec = Jvm.exec ∧ c.code = code ∧ meth.sig.returnType = ret ∧ c.maxLocals = 4 ∧ s.vm.findClass R_law = some m.cls ∧ (∀ w ∈ lw_tbl, w.before #[Value.ref b] s = true) ∧ va_X b L xs s s.heap ∧ b < s.heap.size ∧ meth.locks = false ∧ (Jvm.Cond.and given_1 narrow_1).before #[Value.ref b] s = true
/-! THE CLAIM OUT OF THE SMALL MACHINE: what is left to prove is mv_Pure, of pure functions alone -/
def mv_Pure : Prop := ∀ (Ls : Nat) (xs : Nat → Int32), Ls ≤ 1536 → ∃ (N d c k : Nat) (w : mv_W), d ≤ 2000 ∧ c ≤ 600000 ∧ k ≤ 7302250 ∧ mv_run 7 false (some .boolean) xs Ls (mv_call xs Ls N d) mv_c138 N (0, mv_loc0 [.retAddr 1] 4, [], [], 0, 0) = some (some (.int 1), w, c, k)
theorem mv_nest_in : ∀ q ∈ mv_nest, Cond.methodLinkNest (mv_nm q.1) q.2.1 (mv_y q.2.2) "BagTrees" ∈ lw_tbl := by decide +kernel
theorem mv_over_in : Cond.arrayOver (.array .int) ∈ lw_tbl := by decide +kernel
theorem mv_start {s : State} {b Ls : Nat} {xs : Nat → Int32} (hts : ∀ w ∈ lw_tbl, w.before #[Value.ref b] s = true) (hX : va_X b Ls xs s s.heap) (hbl : b < s.heap.size) : ∃ (D : va_G) (cA : Nat → ClassId), mv_X D s.heap.size b Ls xs cA s := by
  have h7 : ∀ ci : Nat, ∃ (cC : ClassId) (iS : Nat → Nat), ∀ q, vwCl[ci]? = some q → u_Kn s q.1 q.2.1 q.2.2 cC iS := by
    intro ci
    by_cases h : ci < 7
    · obtain ⟨c1, c2, c3, c4, c5⟩ := mv_cls_ok ci h
      obtain ⟨cC, iS, hK⟩ := u_known (n := (mv_cl ci).2.2) hts (fun w hw => mv_in w (c3 w hw)) (by rw [c2]; exact hts _ (mv_in _ (mv_in_inst h)))
      refine ⟨cC, iS, fun q hq => ?_⟩
      have : q = mv_cl ci := Option.some.inj (hq.symm.trans c1)
      rw [this]
      exact hK
    · refine ⟨0, fun _ => 0, fun q hq => ?_⟩
      have := (List.getElem?_eq_some_iff.mp hq).1
      exact absurd this h
  obtain ⟨c0, k0, p0, a1, a2, a3⟩ := Cond.arrayClass_spec (hts (.arrayClass .int) (mv_in _ (mv_in_last (by simp))))
  obtain ⟨c1, k1, p1, b1, b2, b3⟩ := Cond.arrayClass_spec (hts (.arrayClass .long) (mv_in _ (mv_in_last (by simp))))
  have ho := hts _ mv_over_in
  obtain ⟨p2, c2, k2, d1, d2, d3, d4, d5⟩ := arrayOverA_spec ho
  refine ⟨(fun ci => (h7 ci).choose, fun ci => (h7 ci).choose_spec.choose), (fun t => match t with | 0 => c0 | 1 => c1 | _ => c2), ⟨fun ci q hq => (h7 ci).choose_spec.choose_spec q hq, fun k q hk => ?_⟩, fun q hq => va_Nw.of rfl (hts _ (mv_nest_in q hq)), ho, hX, hbl⟩
  match k, hk with
  | 0, hk => cases hk; exact ⟨fun N z => ⟨(fun q hq => by cases hq), k0, a2, p0, a3⟩, a1⟩
  | 1, hk => cases hk; exact ⟨fun N z => ⟨(fun q hq => by cases hq), k1, b2, p1, b3⟩, b1⟩
  | 2, hk => cases hk; exact ⟨fun N z => ⟨(fun q hq => by cases hq), k2, d3, p2, d4⟩, d5⟩
  | k + 3, hk => cases hk
theorem whole_start_of (hM : mv_MnaOk) (hpure : mv_Pure) {p : Program} {e : Env} {s : State} {m : MethodId} {below : List Frame} {meth : Method} {c : Code} (l : Launch) {b L : Nat} {xs : Nat → Int32} (hL : L ≤ 1536) (C0 : lw_At p s m meth c b L xs) : W p l e room_1 s m #[Value.ref b] below meth c s.heap [] 0 0 (lw_Z below #[Value.ref b] s) (entryFrame m ([Value.ref b] : List Value).toArray 4) := by
  obtain ⟨hx, hb, hr, hml, hown, hts, hX, hbl, hlocks, hgv⟩ := C0
  obtain ⟨D, cA, hXX⟩ := mv_start hts hX hbl
  obtain ⟨N, d, c1, k1, w1, hd, hc1, hk1, hrun⟩ := hpure L xs hL
  rw [lg_entry_eq]
  refine mv_run_ok (R := room_1) (base := s.heap.size) (b := b) (D := D) (cA := cA) (d := d) (nL := 4) (cls := 7) hM ⟨hx, hb, hml, hown, fun w hw => hts w (mv_in w hw)⟩ (fun h => by cases h) hXX (Nat.le_refl _) ⟨by show d + 1 ≤ 2048; omega, by show (d + 1) * 40 ≤ 84000; omega⟩ (mv_call_ok hM l D s.heap.size b L xs cA N d) (mv_call_cnt xs L N d) mv_d138 (c1 := c1) (k1 := k1) (w1 := w1) hc1 hk1 ?_ N 0 _ [] [] 0 0 hrun s.heap [] _ (mv_entry_ls [.retAddr 1] (by decide)) (fun k q h => by cases h) va_S.rf rfl
  intro pc ls H locs i st hd hrt hP hS
  unfold mv_ret at hrt
  split at hrt
  · rename_i h9; cases h9
  · split at hrt
    · cases hrt
      refine va_forget (fun q hq => hS.2.2 q hq) ?_
      refine W.widen (k := 600000) (n := 7302250) hc1 hk1 ?_
      exact lw_ret hx hb hr hlocks hd
    · cases hrt
  · rename_i h9; cases h9
  · rename_i h9; cases h9
  · cases hrt
