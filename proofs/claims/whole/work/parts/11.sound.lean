/-! how many cells are new -/
def mv_Cn (call : mv_C) : Prop := ∀ (j : Nat) (as : List Value) (w : mv_W) (r : Option Value) (w' : mv_W) (mc ms : Nat), call j as w = some (r, w', mc, ms) → w'.length = w.length + mc
theorem mv_put_cnt {cls : Nat} {ini : Bool} {ci k a dc dk : Nat} {v : Value} {fs r st' : List Value} {w w' : mv_W} (h : mv_put cls ini ci k a v fs r w = some (st', w', dc, dk)) : w'.length = w.length + dc := by
  unfold mv_put at h
  repeat' split at h
  all_goals first | (cases h; simp) | cases h
set_option maxHeartbeats 1000000 in
theorem mv_heap_cnt {cls : Nat} {ini : Bool} {xs : Nat → Int32} {Ls : Nat} {i : Instr} {n dc dk : Nat} {st st' : List Value} {w w' : mv_W} (h : mv_heap cls ini xs Ls i n st w = some (st', w', dc, dk)) : w'.length = w.length + dc := by
  unfold mv_heap at h
  repeat' split at h
  all_goals first | (cases h; done) | (exact mv_put_cnt h) | (cases h; simp; done) | (cases h; simp; omega)
theorem mv_lnk_cnt {call : mv_C} (hc : mv_Cn call) {kd cls x dc dk : Nat} {st st' : List Value} {w w' : mv_W} (h : mv_lnk kd call cls x st w = some (st', w', dc, dk)) : w'.length = w.length + dc := by
  unfold mv_lnk at h
  split at h
  · split at h
    · split at h
      · unfold mv_do at h
        repeat' split at h
        all_goals first | (cases h; done) | (obtain ⟨v, h1, -, -⟩ := mv_out_ok h; exact hc _ _ _ _ _ _ _ h1)
      · cases h
    · cases h
  · cases h
theorem mv_inv_cnt {call : mv_C} (hc : mv_Cn call) {cls : Nat} {i : Instr} {n dc dk : Nat} {st st' : List Value} {w w' : mv_W} (h : mv_inv cls call i n st w = some (st', w', dc, dk)) : w'.length = w.length + dc := by
  unfold mv_inv at h
  split at h
  · exact mv_lnk_cnt hc h
  · exact mv_lnk_cnt hc h
  · split at h
    · split at h
      · cases h; simp
      · cases h
    · cases h
    · exact mv_lnk_cnt hc h
  · cases h
theorem mv_step_cnt {call : mv_C} (hc : mv_Cn call) {cls : Nat} {ini : Bool} {ret : Option FieldType} {xs : Nat → Int32} {Ls : Nat} {i : Instr} {n : Nat} {s s' : mv_F} (h : mv_step cls ini ret xs Ls call i n s = some (.inl s')) : s'.2.2.2.1.length + s.2.2.2.2.1 = s.2.2.2.1.length + s'.2.2.2.2.1 ∧ s.2.2.2.2.1 ≤ s'.2.2.2.2.1 ∧ s.2.2.2.2.2 ≤ s'.2.2.2.2.2 := by
  obtain ⟨pc, L, st, w, c, k⟩ := s
  unfold mv_step at h
  split at h
  · rename_i s2 h2
    cases h
    unfold mv_one at h2
    dsimp only at h2
    split at h2
    · cases h2; exact ⟨rfl, Nat.le_refl _, Nat.le_refl _⟩
    · split at h2
      · cases h2; exact ⟨rfl, Nat.le_refl _, Nat.le_refl _⟩
      · split at h2
        · cases h2; exact ⟨rfl, Nat.le_refl _, Nat.le_refl _⟩
        · split at h2
          · rename_i hh
            have := mv_heap_cnt hh
            cases h2
            dsimp only
            omega
          · cases h2
  · dsimp only at h
    split at h
    · rename_i hh
      have := mv_inv_cnt hc hh
      cases h
      dsimp only
      omega
    · split at h
      · cases h
      · cases h
theorem mv_step_ret {call : mv_C} {cls : Nat} {ini : Bool} {ret : Option FieldType} {xs : Nat → Int32} {Ls : Nat} {i : Instr} {n : Nat} {s : mv_F} {r : mv_R} (h : mv_step cls ini ret xs Ls call i n s = some (.inr r)) : mv_ret ret i n s.2.2.1 = some r.1 ∧ r.2 = s.2.2.2 := by
  obtain ⟨pc, L, st, w, c, k⟩ := s
  unfold mv_step at h
  split at h
  · cases h
  · dsimp only at h
    split at h
    · cases h
    · split at h
      · rename_i hh
        cases h
        exact ⟨hh, rfl⟩
      · cases h
theorem mv_run_cnt {call : mv_C} (hc : mv_Cn call) {cls : Nat} {ini : Bool} {ret : Option FieldType} {xs : Nat → Int32} {Ls : Nat} {code : List (Nat × Instr × Nat)} : ∀ (n : Nat) (s : mv_F) (r : mv_R), mv_run cls ini ret xs Ls call code n s = some r → r.2.1.length + s.2.2.2.2.1 = s.2.2.2.1.length + r.2.2.1 ∧ s.2.2.2.2.1 ≤ r.2.2.1 ∧ s.2.2.2.2.2 ≤ r.2.2.2
  | 0, s, r, h => by cases h
  | n + 1, s, r, h => by
    unfold mv_run at h
    split at h
    · cases h
    · split at h
      · rename_i s' hs
        have h1 := mv_step_cnt hc hs
        have h2 := mv_run_cnt hc n s' r h
        omega
      · rename_i r' hs
        cases h
        obtain ⟨-, h2⟩ := mv_step_ret hs
        rw [h2]
        exact ⟨rfl, Nat.le_refl _, Nat.le_refl _⟩
      · cases h
theorem mv_call_cnt (xs : Nat → Int32) (Ls N : Nat) : ∀ d, mv_Cn (mv_call xs Ls N d)
  | 0 => fun _ _ _ _ _ _ _ h => by cases h
  | d + 1 => fun j as w r w' mc ms h => by
    unfold mv_call at h
    split at h
    · cases h
    · split at h
      · have := mv_run_cnt (mv_call_cnt xs Ls N d) _ _ _ h
        dsimp only at this
        omega
      · cases h
theorem mv_ret_len {ret : Option FieldType} {i : Instr} {n : Nat} {st : List Value} {r : Option Value} (h : mv_ret ret i n st = some r) : n = 1 := by
  unfold mv_ret at h
  split at h
  · rfl
  · rfl
  · rfl
  · rfl
  · cases h
/-! THE SMALL MACHINE'S RUN IS THE REAL ONE -/
section MV5
variable {p : Program} {l : Launch} {e : Env} {R : Room} {s : State} {m : MethodId} {args : Array Value} {below : List Frame} {meth : Method} {c : Code} {Q : State → Prop} {cc : ByteArray} {base b : Nat} {D : va_G} {cA : Nat → ClassId} {xs : Nat → Int32} {Ls nL cls : Nat} {ini : Bool}
theorem mv_run_ok {d : Nat} (hM : mv_MnaOk) (S : CallFix p m c cc nL s args mv_Ts (mv_nm cls)) (hini : ini = true → meth.name = "<init>") (hX : mv_X D base b Ls xs cA s) (hb0 : base ≤ s.heap.size) (hR : d + 1 ≤ R.frames ∧ (d + 1) * 40 ≤ R.locals) {call : mv_C} (hcall : mv_Ok l D base b Ls xs cA d call) (hcn : mv_Cn call)
    {code : List (Nat × Instr × Nat)} (hcode : ∀ q ∈ code, decode cc q.1 = .ok (q.2.1, q.2.2)) {ret : Option FieldType} {r : Option Value} {w1 : mv_W} {c1 k1 : Nat} (hc1 : c1 ≤ R.cells) (hk1 : k1 ≤ R.slots)
    (fin : ∀ (pc : Nat) (ls : Array Slot) (H : Heap) (locs : List Loc) (i : Instr) (st : List Value), decode cc pc = .ok (i, 1) → mv_ret ret i 1 st = some r → va_P D vwCl (mv_tw base b cA w1) H → va_S (fun q => base ≤ q) s.heap H locs → W p l e R s m args below meth c H locs c1 k1 Q (F0 m pc ls (st.map (mv_tv base b)))) :
    ∀ (n pc : Nat) (L st : List Value) (w : mv_W) (cs ks : Nat), mv_run cls ini ret xs Ls call code n (pc, L, st, w, cs, ks) = some (r, w1, c1, k1) → ∀ (H : Heap) (locs : List Loc) (ls : Array Slot), mv_ls base b nL ls L → va_P D vwCl (mv_tw base b cA w) H → va_S (fun q => base ≤ q) s.heap H locs → s.heap.size + cs = base + w.length → W p l e R s m args below meth c H locs cs ks Q (F0 m pc ls (st.map (mv_tv base b)))
  | 0, pc, L, st, w, cs, ks, h => by cases h
  | n + 1, pc, L, st, w, cs, ks, h => by
    intro H locs ls hl hP hS hcw
    have hx := S.1
    have hb := S.2.1
    unfold mv_run at h
    split at h
    · cases h
    · rename_i i len hg
      have hm9 : (pc, i, len) ∈ code := mv_get_mem hg
      have hd : decode cc pc = .ok (i, len) := hcode (pc, i, len) hm9
      split at h
      · rename_i s' hs
        have ih := mv_run_ok hM S hini hX hb0 hR hcall hcn hcode hc1 hk1 fin n s'.1 s'.2.1 s'.2.2.1 s'.2.2.2.1 s'.2.2.2.2.1 s'.2.2.2.2.2 h
        obtain ⟨k1', k2', k3'⟩ := mv_step_cnt hcn hs
        obtain ⟨-, k4', k5'⟩ := mv_run_cnt hcn _ _ _ h
        dsimp only at k1' k2' k3' k4' k5'
        have hcw' : s.heap.size + s'.2.2.2.2.1 = base + s'.2.2.2.1.length := by omega
        unfold mv_step at hs
        split at hs
        · rename_i s2 h2
          cases hs
          unfold mv_one at h2
          dsimp only at h2
          split at h2
          · rename_i st' ha
            cases h2
            exact mv_alu_ok hx hb ha hd (ih H locs ls hl hP hS hcw')
          · split at h2
            · rename_i L' st' ha
              cases h2
              exact mv_loc_ok hx hb ha hd hl (fun ls' hl' => ih H locs ls' hl' hP hS hcw')
            · split at h2
              · rename_i pc' st' ha
                cases h2
                exact mv_br_ok hx hb ha hd (ih H locs ls hl hP hS hcw')
              · split at h2
                · rename_i st' w' dc dk ha
                  cases h2
                  dsimp only at k4' k5'
                  exact mv_heap_ok hM ⟨by omega, by omega⟩ hl.1.1 S hini hX hb0 ha hd hP hS hcw (by omega) (by omega) (fun H' locs' a1 a2 => ih H' locs' ls hl a1 a2 hcw')
                · cases h2
        · dsimp only at hs
          split at hs
          · rename_i st' w' dc dk ha
            cases hs
            dsimp only at k4' k5'
            unfold mv_inv at ha
            split at ha
            · exact mv_size hP hS hb0 hcw (fun hz => mv_lnk_ok S hX hb0 hR hl.1.1 hcall ha hP hS hz ⟨by omega, by omega⟩ (Or.inl ⟨rfl, hd⟩) (fun H' locs' a1 a2 => ih H' locs' ls hl a1 a2 hcw'))
            · exact mv_size hP hS hb0 hcw (fun hz => mv_lnk_ok S hX hb0 hR hl.1.1 hcall ha hP hS hz ⟨by omega, by omega⟩ (Or.inr (Or.inl ⟨rfl, hd⟩)) (fun H' locs' a1 a2 => ih H' locs' ls hl a1 a2 hcw'))
            · split at ha
              · rename_i hob hone
                split at ha
                · rename_i h8
                  cases ha
                  refine W.objInit hx hb S.2.2.2.1 (S.2.2.2.2 _ (mv_in_obj (mv_l1_mem hob))) (S.2.2.2.2 _ (mv_in_last (by simp))) (S.2.2.2.2 _ (by unfold mv_Ts; simp only [List.mem_append]; exact Or.inr (Or.inr (Or.inr (Or.inr (Or.inr (Or.inr (Or.inl List.mem_cons_self)))))))) rfl (by rw [S.2.2.1]; exact hl.1.1) rfl hd (by omega) ?_ ?_
                  · have h8 := Nat.le_of_ble_eq_true h8
                    rw [mv_catsum]
                    show 2 * 0 + _ + 12 ≤ R.locals
                    omega
                  · exact ih H locs ls hl hP hS hcw'
                · cases ha
              · cases ha
              · exact mv_size hP hS hb0 hcw (fun hz => mv_lnk_ok S hX hb0 hR hl.1.1 hcall ha hP hS hz ⟨by omega, by omega⟩ (Or.inr (Or.inr ⟨rfl, hd⟩)) (fun H' locs' a1 a2 => ih H' locs' ls hl a1 a2 hcw'))
            · cases ha
          · split at hs
            · cases hs
            · cases hs
      · rename_i r' hs
        cases h
        obtain ⟨h1, h2⟩ := mv_step_ret hs
        dsimp only at h1 h2
        have hl1 := mv_ret_len h1
        subst hl1
        cases h2
        exact fin pc ls H locs i st hd h1 hP hS
      · cases h
end MV5
