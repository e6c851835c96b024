section MM
variable {xs : Nat → Int32} {Ls : Nat} {A : Nat → Nat → Int32} {B : Nat → Nat → Int64} {F : Nat → Int32} {sw : Bool} {n : Nat} {nb : Nat → Nat}
theorem ev_lay2 (hM : MI A F n nb) (hn1 : 1 ≤ n) {w0 : Nat} (hw0 : w0 ≤ 50) {x0 : Nat → Nat} (h0 : bsF n nb w0 n 0 (fun _ => 0) = some x0) (hlt : ∀ w, w < w0 → bsF n nb w n 0 (fun _ => 0) = none) : ∃ g32 g36 : Nat → Int32, (∀ j, j < n → g32 j = nI (x0 j)) ∧ mv_Ev xs Ls 5 107 [.ref 28, .int (nI 2)] (MW A B F sw) (some (.int (nI w0)), MW (upA (upA A 32 g32) 36 g36) B F sw, 0, 0) := by
  obtain ⟨g32, g36, hP, hev⟩ := ev_layBandM (xs := xs) (Ls := Ls) (B := B) (sw := sw) hM hn1 hw0 h0 hlt
  refine ⟨g32, g36, hP, ?_⟩
  refine ev_of_wp rfl rfl rfl ?_
  refine wp_go (f' := ((if ¬ (nI 2) = (nI 2) then 10 else 5), [.ref 28, .int (nI 2), .retAddr 0, .retAddr 0, .retAddr 0, .retAddr 0, .retAddr 0], [], MW A B F sw, 0, 0)) 3 rfl ?_
  refine wp_ite (fun h9 => absurd h9 (fun h => h rfl)) (fun _ => ?_)
  refine wp_go (f' := (6, [.ref 28, .int (nI 2), .retAddr 0, .retAddr 0, .retAddr 0, .retAddr 0, .retAddr 0], [.ref 28], MW A B F sw, 0, 0)) 1 rfl ?_
  refine wp_call rfl rfl rfl (ev_up hev (by decide)) ?_
  refine wp_eq (f' := (9, [.ref 28, .int (nI 2), .retAddr 0, .retAddr 0, .retAddr 0, .retAddr 0, .retAddr 0], [.int (nI w0)], MW (upA (upA A 32 g32) 36 g36) B F sw, 0, 0)) rfl ?_
  exact wp_iret rfl
theorem ev_lay2z (hM : MI A F n nb) (h0 : n = 0) : mv_Ev xs Ls 5 107 [.ref 28, .int (nI 2)] (MW A B F sw) (some (.int (nI 0)), MW A B F sw, 0, 0) := by
  refine ev_of_wp rfl rfl rfl ?_
  refine wp_go (f' := ((if ¬ (nI 2) = (nI 2) then 10 else 5), [.ref 28, .int (nI 2), .retAddr 0, .retAddr 0, .retAddr 0, .retAddr 0, .retAddr 0], [], MW A B F sw, 0, 0)) 3 rfl ?_
  refine wp_ite (fun h9 => absurd h9 (fun h => h rfl)) (fun _ => ?_)
  refine wp_go (f' := (6, [.ref 28, .int (nI 2), .retAddr 0, .retAddr 0, .retAddr 0, .retAddr 0, .retAddr 0], [.ref 28], MW A B F sw, 0, 0)) 1 rfl ?_
  refine wp_call rfl rfl rfl (ev_up (ev_layBandM0 hM h0) (by decide)) ?_
  refine wp_eq (f' := (9, [.ref 28, .int (nI 2), .retAddr 0, .retAddr 0, .retAddr 0, .retAddr 0, .retAddr 0], [.int (nI 0)], MW A B F sw, 0, 0)) rfl ?_
  exact wp_iret rfl
theorem ev_lay5 (hM : MI A F n nb) (hex : ∀ k, k < n → rpkN n nb (lhN n nb) (rhyN n nb (A 32) k).2.1 (rhyN n nb (A 32) k).1 < n) : ∃ g33 g34 g35 g37 : Nat → Int32, mv_Ev xs Ls 5 107 [.ref 28, .int (nI 5)] (MW A B F sw) (some (.int (nI (lhN n nb))), MW (upA (upA (upA (upA (upA A 33 g33) 34 g34) 35 g35) 37 g37) 32 (rhyN n nb (A 32) n).2.2) B F sw, 0, 0) := by
  obtain ⟨g33, g34, g35, g37, hev⟩ := ev_layHighM (xs := xs) (Ls := Ls) (B := B) (sw := sw) hM hex
  refine ⟨g33, g34, g35, g37, ?_⟩
  refine ev_of_wp rfl rfl rfl ?_
  refine wp_go (f' := ((if ¬ (nI 5) = (nI 2) then 10 else 5), [.ref 28, .int (nI 5), .retAddr 0, .retAddr 0, .retAddr 0, .retAddr 0, .retAddr 0], [], MW A B F sw, 0, 0)) 3 rfl ?_
  refine wp_ite (fun _ => ?_) (fun h9 => absurd (by decide) h9)
  refine wp_go (f' := ((if ¬ (nI 5) = (nI 5) then 20 else 15), [.ref 28, .int (nI 5), .retAddr 0, .retAddr 0, .retAddr 0, .retAddr 0, .retAddr 0], [], MW A B F sw, 0, 0)) 3 rfl ?_
  refine wp_ite (fun h9 => absurd h9 (fun h => h rfl)) (fun _ => ?_)
  refine wp_go (f' := (16, [.ref 28, .int (nI 5), .retAddr 0, .retAddr 0, .retAddr 0, .retAddr 0, .retAddr 0], [.ref 28], MW A B F sw, 0, 0)) 1 rfl ?_
  refine wp_call rfl rfl rfl (ev_up hev (by decide)) ?_
  refine wp_eq (f' := (19, [.ref 28, .int (nI 5), .retAddr 0, .retAddr 0, .retAddr 0, .retAddr 0, .retAddr 0], [.int (nI (lhN n nb))], MW (upA (upA (upA (upA (upA A 33 g33) 34 g34) 35 g35) 37 g37) 32 (rhyN n nb (A 32) n).2.2) B F sw, 0, 0)) rfl ?_
  exact wp_iret rfl
theorem ev_widthM {A2 : Nat → Nat → Int32} {kd : Nat} {c : Int32} (hkd : kd ≤ 5) (hl : mv_Ev xs Ls 5 107 [.ref 28, .int (nI kd)] (MW A B F sw) (some (.int c), MW A2 B F sw, 0, 0)) : mv_Ev xs Ls 6 106 [.ref 28, .int (nI kd)] (MW A B F sw) (some (.int c), MW A2 B F sw, 0, 0) := by
  refine ev_of_wp rfl rfl rfl ?_
  have hin : bI (decide (nI 0 ≤ nI kd) && decide (nI kd ≤ nI 5)) = nI 1 := by rw [decide_eq_true (nI_le (by omega) (by omega)), decide_eq_true (nI_le (by omega) (by omega))]; rfl
  refine wp_go (f' := (3, [.ref 28, .int (nI kd)], [.int (nI 5), .int (nI 0), .int (nI kd)], MW A B F sw, 0, 0)) 3 rfl ?_
  refine wp_call rfl rfl rfl (ev_up (ev_isIn (nI kd) (nI 0) (nI 5) _) (by decide)) ?_
  refine wp_eq (f' := (6, [.ref 28, .int (nI kd)], [.int (bI (decide ((nI 0) ≤ (nI kd)) && decide ((nI kd) ≤ (nI 5))))], MW A B F sw, 0, 0)) rfl ?_
  refine wp_go (f' := ((if (bI (decide ((nI 0) ≤ (nI kd)) && decide ((nI kd) ≤ (nI 5)))) = 0 then 17 else 9), [.ref 28, .int (nI kd)], [], MW A B F sw, 0, 0)) 1 rfl ?_
  refine wp_ite (fun h9 => absurd h9 (by rw [hin]; decide)) (fun _ => ?_)
  refine wp_go (f' := (11, [.ref 28, .int (nI kd)], [.int (nI kd), .ref 28], MW A B F sw, 0, 0)) 2 rfl ?_
  refine wp_call rfl rfl rfl (ev_up hl (by decide)) ?_
  refine wp_eq (f' := (14, [.ref 28, .int (nI kd)], [.int c], MW A2 B F sw, 0, 0)) rfl ?_
  refine wp_go (f' := (19, [.ref 28, .int (nI kd)], [.int c], MW A2 B F sw, 0, 0)) 1 rfl ?_
  exact wp_iret rfl
theorem ev_orderM (hM : MI A F n nb) {A2 : Nat → Nat → Int32} {kd : Nat} {c : Int32} (hkd : kd ≤ 5) (hl : mv_Ev xs Ls 5 107 [.ref 28, .int (nI kd)] (MW A B F sw) (some (.int c), MW A2 B F sw, 0, 0)) {k : Nat} (hk : k < n) : mv_Ev xs Ls 6 118 [.ref 28, .int (nI kd), .int (nI k)] (MW A B F sw) (some (.int (A2 32 k)), MW A2 B F sw, 0, 0) := by
  refine ev_of_wp rfl rfl rfl ?_
  have hin : bI (decide (nI 0 ≤ nI kd) && decide (nI kd ≤ nI 5)) = nI 1 := by rw [decide_eq_true (nI_le (by omega) (by omega)), decide_eq_true (nI_le (by omega) (by omega))]; rfl
  have hn := hM.1
  refine wp_go (f' := (3, [.ref 28, .int (nI kd), .int (nI k)], [.int (nI 5), .int (nI 0), .int (nI kd)], MW A B F sw, 0, 0)) 3 rfl ?_
  refine wp_call rfl rfl rfl (ev_up (ev_isIn (nI kd) (nI 0) (nI 5) _) (by decide)) ?_
  refine wp_eq (f' := (6, [.ref 28, .int (nI kd), .int (nI k)], [.int (bI (decide ((nI 0) ≤ (nI kd)) && decide ((nI kd) ≤ (nI 5))))], MW A B F sw, 0, 0)) rfl ?_
  refine wp_go (f' := ((if ¬ (bI (decide ((nI 0) ≤ (nI kd)) && decide ((nI kd) ≤ (nI 5)))) = 0 then 12 else 9), [.ref 28, .int (nI kd), .int (nI k)], [], MW A B F sw, 0, 0)) 1 rfl ?_
  refine wp_ite (fun _ => ?_) (fun h9 => absurd (by rw [hin]; decide) h9)
  refine wp_go (f' := (18, [.ref 28, .int (nI kd), .int (nI k)], [.int (F 6), .int (nI 0), .int (nI k)], MW A B F sw, 0, 0)) 4 rfl ?_
  rw [hM.2.1]
  refine wp_go (f' := (20, [.ref 28, .int (nI kd), .int (nI k)], [.int ((nI n) - (nI 1)), .int (nI 0), .int (nI k)], MW A B F sw, 0, 0)) 2 rfl ?_
  refine wp_call rfl rfl rfl (ev_up (ev_isIn (nI k) (nI 0) ((nI n) - (nI 1)) _) (by decide)) ?_
  refine wp_eq (f' := (23, [.ref 28, .int (nI kd), .int (nI k)], [.int (bI (decide ((nI 0) ≤ (nI k)) && decide ((nI k) ≤ ((nI n) - (nI 1)))))], MW A B F sw, 0, 0)) rfl ?_
  refine wp_go (f' := ((if ¬ (bI (decide ((nI 0) ≤ (nI k)) && decide ((nI k) ≤ ((nI n) - (nI 1))))) = 0 then 28 else 26), [.ref 28, .int (nI kd), .int (nI k)], [], MW A B F sw, 0, 0)) 1 rfl ?_
  refine wp_ite (fun _ => ?_) (fun h9 => absurd (by rw [show (decide (nI 0 ≤ nI k) && decide (nI k ≤ nI n - nI 1)) = true from isV_t hn hk]; decide) h9)
  refine wp_go (f' := (30, [.ref 28, .int (nI kd), .int (nI k)], [.int (nI kd), .ref 28], MW A B F sw, 0, 0)) 2 rfl ?_
  refine wp_call rfl rfl rfl (ev_up hl (by decide)) ?_
  refine wp_eq (f' := (33, [.ref 28, .int (nI kd), .int (nI k)], [.int c], MW A2 B F sw, 0, 0)) rfl ?_
  refine wp_go (f' := (39, [.ref 28, .int (nI kd), .int (nI k)], [.int (nI k), .ref 32], MW A2 B F sw, 0, 0)) 4 rfl ?_
  refine wp_iald rfl rfl (by omega) (by decide) ?_
  exact wp_iret rfl
theorem ev_seenM (hM : MI A F n nb) {A2 : Nat → Nat → Int32} {kd : Nat} {c : Int32} (hkd : kd ≤ 5) (hl : mv_Ev xs Ls 5 107 [.ref 28, .int (nI kd)] (MW A B F sw) (some (.int c), MW A2 B F sw, 0, 0)) (hM2 : MI A2 F n nb) {r : Nat → Nat} {k0 v : Nat} (hk0 : k0 < n) (hrow : ∀ j, j < n → A2 32 j = nI (r j)) (hrn : ∀ j, j < n → r j < n) (hv : r k0 = v) (hne : ∀ j, j < k0 → r j ≠ v) : mv_Ev xs Ls 6 119 [.ref 28, .int (nI kd), .int (nI v)] (MW A B F sw) (some (.int (nI (seesN n nb (setR r k0) v))), MW A2 B F sw, 0, 0) := by
  refine ev_of_wp rfl rfl rfl ?_
  have hin : bI (decide (nI 0 ≤ nI kd) && decide (nI kd ≤ nI 5)) = nI 1 := by rw [decide_eq_true (nI_le (by omega) (by omega)), decide_eq_true (nI_le (by omega) (by omega))]; rfl
  have hn := hM.1
  have hp := pow10 hn
  have hp1 : 1 ≤ 2 ^ n := Nat.one_le_two_pow
  have hal := all_lt hn
  have hvn : v < n := hv ▸ hrn k0 hk0
  refine wp_go (f' := (3, [.ref 28, .int (nI kd), .int (nI v), .retAddr 0, .retAddr 0], [.int (nI 5), .int (nI 0), .int (nI kd)], MW A B F sw, 0, 0)) 3 rfl ?_
  refine wp_call rfl rfl rfl (ev_up (ev_isIn (nI kd) (nI 0) (nI 5) _) (by decide)) ?_
  refine wp_eq (f' := (6, [.ref 28, .int (nI kd), .int (nI v), .retAddr 0, .retAddr 0], [.int (bI (decide ((nI 0) ≤ (nI kd)) && decide ((nI kd) ≤ (nI 5))))], MW A B F sw, 0, 0)) rfl ?_
  refine wp_go (f' := ((if (bI (decide ((nI 0) ≤ (nI kd)) && decide ((nI kd) ≤ (nI 5)))) = 0 then 17 else 9), [.ref 28, .int (nI kd), .int (nI v), .retAddr 0, .retAddr 0], [], MW A B F sw, 0, 0)) 1 rfl ?_
  refine wp_ite (fun h9 => absurd h9 (by rw [hin]; decide)) (fun _ => ?_)
  refine wp_go (f' := (11, [.ref 28, .int (nI kd), .int (nI v), .retAddr 0, .retAddr 0], [.int (nI v), .ref 28], MW A B F sw, 0, 0)) 2 rfl ?_
  refine wp_call rfl rfl rfl (ev_up (ev_isV_t hM hvn) (by decide)) ?_
  refine wp_eq (f' := (14, [.ref 28, .int (nI kd), .int (nI v), .retAddr 0, .retAddr 0], [.int (nI 1)], MW A B F sw, 0, 0)) rfl ?_
  refine wp_go (f' := ((if ¬ (nI 1) = 0 then 20 else 17), [.ref 28, .int (nI kd), .int (nI v), .retAddr 0, .retAddr 0], [], MW A B F sw, 0, 0)) 1 rfl ?_
  refine wp_ite (fun _ => ?_) (fun h9 => absurd (by decide) h9)
  refine wp_go (f' := (22, [.ref 28, .int (nI kd), .int (nI v), .retAddr 0, .retAddr 0], [.int (nI kd), .ref 28], MW A B F sw, 0, 0)) 2 rfl ?_
  refine wp_call rfl rfl rfl (ev_up hl (by decide)) ?_
  refine wp_eq (f' := (25, [.ref 28, .int (nI kd), .int (nI v), .retAddr 0, .retAddr 0], [.int c], MW A2 B F sw, 0, 0)) rfl ?_
  refine wp_go (f' := (31, [.ref 28, .int (nI kd), .int (nI v), .int (nI 0), .int (nI 0)], [], MW A2 B F sw, 0, 0)) 5 rfl ?_
  refine for_ind (P := fun (k s : Nat) => s < 2 ^ n → mv_Wp xs Ls 5 6 false (some .int) mv_c119 (31, [.ref 28, .int (nI kd), .int (nI v), .int (nI s), .int (nI k)], [], MW A2 B F sw, 0, 0) (some (.int (nI (seesN n nb (setR r k0) v))), MW A2 B F sw, 0, 0)) (f := fun j s => s ||| 2 ^ r j) (n := k0) ?_ k0 0 (Nat.le_refl _) ?_ hp1
  · intro k s hk ih hs
    have hrk := hrn k (by omega)
    refine wp_go (f' := (37, [.ref 28, .int (nI kd), .int (nI v), .int (nI s), .int (nI k)], [.int (nI k), .ref 32], MW A2 B F sw, 0, 0)) 3 rfl ?_
    refine wp_iald rfl rfl (by omega) (by decide) ?_
    rw [hrow k (by omega)]
    refine wp_go (f' := ((if (nI (r k)) = (nI v) then 60 else 42), [.ref 28, .int (nI kd), .int (nI v), .int (nI s), .int (nI k)], [], MW A2 B F sw, 0, 0)) 2 rfl ?_
    refine wp_ite (fun h9 => absurd h9 (fun h8 => hne k hk ((nI_eq (a := r k) (b := v) (by omega) (by omega)).mp h8))) (fun _ => ?_)
    refine wp_go (f' := (50, [.ref 28, .int (nI kd), .int (nI v), .int (nI s), .int (nI k)], [.int (nI k), .ref 32, .int (nI 1), .int (nI s)], MW A2 B F sw, 0, 0)) 5 rfl ?_
    refine wp_iald rfl rfl (by omega) (by decide) ?_
    rw [hrow k (by omega)]
    refine wp_go (f' := (52, [.ref 28, .int (nI kd), .int (nI v), .int (nI s), .int (nI k)], [.int ((nI 1) <<< ((nI (r k)) &&& 31)), .int (nI s)], MW A2 B F sw, 0, 0)) 1 rfl ?_
    rw [bx_one (by omega)]
    refine wp_go (f' := (53, [.ref 28, .int (nI kd), .int (nI v), .int (nI s), .int (nI k)], [.int ((nI s) ||| (nI (2 ^ (r k))))], MW A2 B F sw, 0, 0)) 1 rfl ?_
    rw [bx_or]
    refine wp_go (f' := (57, [.ref 28, .int (nI kd), .int (nI v), .int (nI (s ||| (2 ^ (r k)))), .int ((nI k) + 1)], [], MW A2 B F sw, 0, 0)) 2 rfl ?_
    rw [nI_1]
    refine wp_go (f' := (31, [.ref 28, .int (nI kd), .int (nI v), .int (nI (s ||| (2 ^ (r k)))), .int (nI (k + 1))], [], MW A2 B F sw, 0, 0)) 1 rfl ?_
    exact ih (or_ltn hs hrk)
  · intro hs
    have hsl := setR_lt (r := r) (n := n) (k := k0) (fun j hj => hrn j (by omega))
    refine wp_go (f' := (37, [.ref 28, .int (nI kd), .int (nI v), .int (nI (setR r k0)), .int (nI k0)], [.int (nI k0), .ref 32], MW A2 B F sw, 0, 0)) 3 rfl ?_
    refine wp_iald rfl rfl (by omega) (by decide) ?_
    rw [hrow k0 (by omega)]
    refine wp_go (f' := ((if (nI (r k0)) = (nI v) then 60 else 42), [.ref 28, .int (nI kd), .int (nI v), .int (nI (setR r k0)), .int (nI k0)], [], MW A2 B F sw, 0, 0)) 2 rfl ?_
    refine wp_ite (fun _ => ?_) (fun h9 => absurd (congrArg nI hv) h9)
    refine wp_go (f' := (63, [.ref 28, .int (nI kd), .int (nI v), .int (nI (setR r k0)), .int (nI k0)], [.int (nI v), .int (nI (setR r k0)), .ref 28], MW A2 B F sw, 0, 0)) 3 rfl ?_
    refine wp_call rfl rfl rfl (ev_up (ev_sees (A := A2) hM2 (s := setR r k0) (v := v) (by omega) (by omega)) (by decide)) ?_
    refine wp_eq (f' := (66, [.ref 28, .int (nI kd), .int (nI v), .int (nI (setR r k0)), .int (nI k0)], [.int (nI (seesN n nb (setR r k0) v))], MW A2 B F sw, 0, 0)) rfl ?_
    exact wp_iret rfl
theorem ev_widthM_f {x : Int32} (hx : outN x 5 = true) : mv_Ev xs Ls 6 106 [.ref 28, .int x] (MW A B F sw) (some (.int (-2)), MW A B F sw, 0, 0) := by
  refine ev_of_wp rfl rfl rfl ?_
  refine wp_go (f' := (3, [.ref 28, .int x], [.int (nI 5), .int (nI 0), .int x], MW A B F sw, 0, 0)) 3 rfl ?_
  refine wp_call rfl rfl rfl (ev_up (ev_isIn x (nI 0) (nI 5) _) (by decide)) ?_
  refine wp_eq (f' := (6, [.ref 28, .int x], [.int (bI (decide ((nI 0) ≤ x) && decide (x ≤ (nI 5))))], MW A B F sw, 0, 0)) rfl ?_
  refine wp_go (f' := ((if (bI (decide ((nI 0) ≤ x) && decide (x ≤ (nI 5)))) = 0 then 17 else 9), [.ref 28, .int x], [], MW A B F sw, 0, 0)) 1 rfl ?_
  refine wp_ite (fun _ => ?_) (fun h9 => absurd (by unfold outN at hx; revert hx; cases (decide (nI 0 ≤ x) && decide (x ≤ nI 5)) <;> intro hx <;> first | rfl | cases hx) h9)
  refine wp_go (f' := (19, [.ref 28, .int x], [.int (-2)], MW A B F sw, 0, 0)) 1 rfl ?_
  exact wp_iret rfl
theorem ev_orderM_f {x y : Int32} (hx : outN x 5 = true) : mv_Ev xs Ls 6 118 [.ref 28, .int x, .int y] (MW A B F sw) (some (.int (-2)), MW A B F sw, 0, 0) := by
  refine ev_of_wp rfl rfl rfl ?_
  refine wp_go (f' := (3, [.ref 28, .int x, .int y], [.int (nI 5), .int (nI 0), .int x], MW A B F sw, 0, 0)) 3 rfl ?_
  refine wp_call rfl rfl rfl (ev_up (ev_isIn x (nI 0) (nI 5) _) (by decide)) ?_
  refine wp_eq (f' := (6, [.ref 28, .int x, .int y], [.int (bI (decide ((nI 0) ≤ x) && decide (x ≤ (nI 5))))], MW A B F sw, 0, 0)) rfl ?_
  refine wp_go (f' := ((if ¬ (bI (decide ((nI 0) ≤ x) && decide (x ≤ (nI 5)))) = 0 then 12 else 9), [.ref 28, .int x, .int y], [], MW A B F sw, 0, 0)) 1 rfl ?_
  refine wp_ite (fun h9 => absurd h9 (fun h8 => h8 (by unfold outN at hx; revert hx; cases (decide (nI 0 ≤ x) && decide (x ≤ nI 5)) <;> intro hx <;> first | rfl | cases hx))) (fun _ => ?_)
  refine wp_go (f' := (11, [.ref 28, .int x, .int y], [.int (-2)], MW A B F sw, 0, 0)) 1 rfl ?_
  exact wp_iret rfl
theorem ev_seenM_f {x y : Int32} (hx : outN x 5 = true) : mv_Ev xs Ls 6 119 [.ref 28, .int x, .int y] (MW A B F sw) (some (.int (-2)), MW A B F sw, 0, 0) := by
  refine ev_of_wp rfl rfl rfl ?_
  refine wp_go (f' := (3, [.ref 28, .int x, .int y, .retAddr 0, .retAddr 0], [.int (nI 5), .int (nI 0), .int x], MW A B F sw, 0, 0)) 3 rfl ?_
  refine wp_call rfl rfl rfl (ev_up (ev_isIn x (nI 0) (nI 5) _) (by decide)) ?_
  refine wp_eq (f' := (6, [.ref 28, .int x, .int y, .retAddr 0, .retAddr 0], [.int (bI (decide ((nI 0) ≤ x) && decide (x ≤ (nI 5))))], MW A B F sw, 0, 0)) rfl ?_
  refine wp_go (f' := ((if (bI (decide ((nI 0) ≤ x) && decide (x ≤ (nI 5)))) = 0 then 17 else 9), [.ref 28, .int x, .int y, .retAddr 0, .retAddr 0], [], MW A B F sw, 0, 0)) 1 rfl ?_
  refine wp_ite (fun _ => ?_) (fun h9 => absurd (by unfold outN at hx; revert hx; cases (decide (nI 0 ≤ x) && decide (x ≤ nI 5)) <;> intro hx <;> first | rfl | cases hx) h9)
  refine wp_go (f' := (19, [.ref 28, .int x, .int y, .retAddr 0, .retAddr 0], [.int (-2)], MW A B F sw, 0, 0)) 1 rfl ?_
  exact wp_iret rfl
theorem ev_orderM_n (hM : MI A F n nb) {kd : Nat} (hkd : kd ≤ 5) {y : Int32} (hy : isV y n = false) : mv_Ev xs Ls 6 118 [.ref 28, .int (nI kd), .int y] (MW A B F sw) (some (.int (-1)), MW A B F sw, 0, 0) := by
  refine ev_of_wp rfl rfl rfl ?_
  have hin : bI (decide (nI 0 ≤ nI kd) && decide (nI kd ≤ nI 5)) = nI 1 := by rw [decide_eq_true (nI_le (by omega) (by omega)), decide_eq_true (nI_le (by omega) (by omega))]; rfl
  refine wp_go (f' := (3, [.ref 28, .int (nI kd), .int y], [.int (nI 5), .int (nI 0), .int (nI kd)], MW A B F sw, 0, 0)) 3 rfl ?_
  refine wp_call rfl rfl rfl (ev_up (ev_isIn (nI kd) (nI 0) (nI 5) _) (by decide)) ?_
  refine wp_eq (f' := (6, [.ref 28, .int (nI kd), .int y], [.int (bI (decide ((nI 0) ≤ (nI kd)) && decide ((nI kd) ≤ (nI 5))))], MW A B F sw, 0, 0)) rfl ?_
  refine wp_go (f' := ((if ¬ (bI (decide ((nI 0) ≤ (nI kd)) && decide ((nI kd) ≤ (nI 5)))) = 0 then 12 else 9), [.ref 28, .int (nI kd), .int y], [], MW A B F sw, 0, 0)) 1 rfl ?_
  refine wp_ite (fun _ => ?_) (fun h9 => absurd (by rw [hin]; decide) h9)
  refine wp_go (f' := (18, [.ref 28, .int (nI kd), .int y], [.int (F 6), .int (nI 0), .int y], MW A B F sw, 0, 0)) 4 rfl ?_
  rw [hM.2.1]
  refine wp_go (f' := (20, [.ref 28, .int (nI kd), .int y], [.int ((nI n) - (nI 1)), .int (nI 0), .int y], MW A B F sw, 0, 0)) 2 rfl ?_
  refine wp_call rfl rfl rfl (ev_up (ev_isIn y (nI 0) ((nI n) - (nI 1)) _) (by decide)) ?_
  refine wp_eq (f' := (23, [.ref 28, .int (nI kd), .int y], [.int (bI (decide ((nI 0) ≤ y) && decide (y ≤ ((nI n) - (nI 1)))))], MW A B F sw, 0, 0)) rfl ?_
  refine wp_go (f' := ((if ¬ (bI (decide ((nI 0) ≤ y) && decide (y ≤ ((nI n) - (nI 1))))) = 0 then 28 else 26), [.ref 28, .int (nI kd), .int y], [], MW A B F sw, 0, 0)) 1 rfl ?_
  refine wp_ite (fun h9 => absurd h9 (fun h8 => h8 (by rw [show (decide (nI 0 ≤ y) && decide (y ≤ nI n - nI 1)) = false from hy]; rfl))) (fun _ => ?_)
  refine wp_go (f' := (27, [.ref 28, .int (nI kd), .int y], [.int (-1)], MW A B F sw, 0, 0)) 1 rfl ?_
  exact wp_iret rfl
theorem ev_seenM_v (hM : MI A F n nb) {kd : Nat} (hkd : kd ≤ 5) {y : Int32} (hy : isV y n = false) : mv_Ev xs Ls 6 119 [.ref 28, .int (nI kd), .int y] (MW A B F sw) (some (.int (-2)), MW A B F sw, 0, 0) := by
  refine ev_of_wp rfl rfl rfl ?_
  have hin : bI (decide (nI 0 ≤ nI kd) && decide (nI kd ≤ nI 5)) = nI 1 := by rw [decide_eq_true (nI_le (by omega) (by omega)), decide_eq_true (nI_le (by omega) (by omega))]; rfl
  refine wp_go (f' := (3, [.ref 28, .int (nI kd), .int y, .retAddr 0, .retAddr 0], [.int (nI 5), .int (nI 0), .int (nI kd)], MW A B F sw, 0, 0)) 3 rfl ?_
  refine wp_call rfl rfl rfl (ev_up (ev_isIn (nI kd) (nI 0) (nI 5) _) (by decide)) ?_
  refine wp_eq (f' := (6, [.ref 28, .int (nI kd), .int y, .retAddr 0, .retAddr 0], [.int (bI (decide ((nI 0) ≤ (nI kd)) && decide ((nI kd) ≤ (nI 5))))], MW A B F sw, 0, 0)) rfl ?_
  refine wp_go (f' := ((if (bI (decide ((nI 0) ≤ (nI kd)) && decide ((nI kd) ≤ (nI 5)))) = 0 then 17 else 9), [.ref 28, .int (nI kd), .int y, .retAddr 0, .retAddr 0], [], MW A B F sw, 0, 0)) 1 rfl ?_
  refine wp_ite (fun h9 => absurd h9 (by rw [hin]; decide)) (fun _ => ?_)
  refine wp_go (f' := (11, [.ref 28, .int (nI kd), .int y, .retAddr 0, .retAddr 0], [.int y, .ref 28], MW A B F sw, 0, 0)) 2 rfl ?_
  refine wp_call rfl rfl rfl (ev_up (ev_isV_f hM hy) (by decide)) ?_
  refine wp_eq (f' := (14, [.ref 28, .int (nI kd), .int y, .retAddr 0, .retAddr 0], [.int (nI 0)], MW A B F sw, 0, 0)) rfl ?_
  refine wp_go (f' := ((if ¬ (nI 0) = 0 then 20 else 17), [.ref 28, .int (nI kd), .int y, .retAddr 0, .retAddr 0], [], MW A B F sw, 0, 0)) 1 rfl ?_
  refine wp_ite (fun h9 => absurd h9 (by decide)) (fun _ => ?_)
  refine wp_go (f' := (19, [.ref 28, .int (nI kd), .int y, .retAddr 0, .retAddr 0], [.int (-2)], MW A B F sw, 0, 0)) 1 rfl ?_
  exact wp_iret rfl
end MM
