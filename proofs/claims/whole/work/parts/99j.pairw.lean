/-! width, order, seen: pairs of calls -/
section PAIRW
variable {xs : Nat → Int32} {Ls : Nat} {A A1 A2 : Nat → Nat → Int32} {B B1 B2 : Nat → Nat → Int64} {F F1 F2 : Nat → Int32} {sw sw1 sw2 : Bool} {n ed c : Nat} {nb wt : Nat → Nat}
theorem lay_both (I : INV A F n nb ed wt c) {kd : Nat} (hk : kd ≤ 5) : ∃ (A3 : Nat → Nat → Int32) (w : Nat) (r : Nat → Nat), ORD n r ∧ mv_Ev xs Ls 5 107 [.ref 28, .int (nI kd)] (MW A B F sw) (some (.int (nI w)), MW A3 B F sw, 0, 0) ∧ (∀ j, j < n → A3 32 j = nI (r j)) ∧ (∀ k, k ≤ 30 → A3 k = A k) ∧ ∀ A2 : Nat → Nat → Int32, KD A2 n nb ed kd → A2 15 kd = nI w ∧ ∀ j, j < n → A2 (9 + kd) j = nI (r j) := by
  have hn := vv_n I
  have G := vv_g I
  have hc : kd = 2 ∨ kd = 5 ∨ (kd = 0 ∨ kd = 1 ∨ kd = 3 ∨ kd = 4) := by omega
  rcases hc with rfl | rfl | hq
  · by_cases h0 : n = 0
    · refine ⟨A, 0, fun _ => 0, ⟨fun j hj => by omega, fun i j hi => by omega⟩, ev_lay2z (vv_mi I) h0, fun j hj => by omega, fun _ _ => rfl, fun A2 h => ?_⟩
      subst h0
      obtain ⟨r, g, hr, e1, e2⟩ := h
      exact ⟨by rw [e2, band_0], fun j hj => by omega⟩
    · obtain ⟨w0, x0, hw, h1, h2, ho, hb⟩ := band_eq G (ed := ed) (by omega)
      obtain ⟨g32, g36, hg, he⟩ := ev_lay2 (xs := xs) (Ls := Ls) (B := B) (sw := sw) (vv_mi I) (by omega) (w0 := w0) (by omega) h1 h2
      refine ⟨_, w0, x0, ho, he, fun j hj => hg j hj, fun k hk => by rw [upA_ne (by omega), upA_ne (by omega)], fun A2 h => ?_⟩
      obtain ⟨r, g, hr, e1, e2⟩ := h
      refine ⟨by rw [e2, (hb r).1], fun j hj => ?_⟩
      rw [e1, rowT_at (by omega), (hb r).2 j hj]
  · obtain ⟨g33, g34, g35, g37, he⟩ := ev_lay5 (xs := xs) (Ls := Ls) (B := B) (sw := sw) (vv_mi I) (rhy_ex G)
    refine ⟨_, lhN n nb, hrow n nb, high_ord G, he, fun j hj => rhy_row G hj, fun k hk => by rw [upA_ne (by omega), upA_ne (by omega), upA_ne (by omega), upA_ne (by omega), upA_ne (by omega)], fun A2 h => ?_⟩
    obtain ⟨⟨g, e1⟩, e2⟩ := h
    refine ⟨by rw [e2, (hgo_eq G).1], fun j hj => ?_⟩
    rw [e1]; exact hay_row hj
  · refine ⟨_, bbN n nb kd 0, lrow n nb kd, lay_ord hn (gr_1024 G), ev_lay (vv_mi I) hq, fun j hj => lay_row hj, fun k hk => by rw [upA_ne (by omega), upA_ne (by omega)], fun A2 h => ?_⟩
    have h' : (∃ g, A2 (9 + kd) = (layN n nb kd g).2.2) ∧ A2 15 kd = nI (bbN n nb kd 0) := by
      rcases hq with rfl | rfl | rfl | rfl <;> exact h
    obtain ⟨⟨g, e1⟩, e2⟩ := h'
    exact ⟨e2, fun j hj => by rw [e1]; exact lay_row hj⟩
theorem kd_cs {kd : Nat} (hk : kd ≤ 5) : kd = 0 ∨ kd = 1 ∨ kd = 2 ∨ kd = 3 ∨ kd = 4 ∨ kd = 5 := by omega
theorem b_wid (I : INV A F n nb ed wt c) {kd : Nat} (hk : kd ≤ 5) : ∃ (A2 : Nat → Nat → Int32) (F2 : Nat → Int32), mv_Ev xs Ls 18 30 [.ref 0, .int (nI kd)] (MW A B F sw) (some (.int (A2 15 kd)), MW A2 B F2 sw, 0, 0) ∧ SP A A2 F F2 n nb ed kd := by
  rcases kd_cs hk with rfl | rfl | rfl | rfl | rfl | rfl
  · exact ev_bWidth0 (vv_ci I) (vv_cz I) (vv_ri I) (vv_e1 I) (vv_hq I) (vv_oi I) (CQ_ok (vv_g I) (vv_ed I) (by omega))
  · exact ev_bWidth1 (vv_ci I) (vv_cz I) (vv_ri I) (vv_e1 I) (vv_hq I) (vv_oi I) (CQ_ok (vv_g I) (vv_ed I) (by omega))
  · exact ev_bWidth2 (vv_ci I) (vv_cz I) (vv_ri I) (vv_e1 I) (vv_hq I) (vv_oi I)
  · exact ev_bWidth3 (vv_ci I) (vv_cz I) (vv_ri I) (vv_e1 I) (vv_hq I) (vv_oi I) (CQ_ok (vv_g I) (vv_ed I) (by omega))
  · exact ev_bWidth4 (vv_ci I) (vv_cz I) (vv_ri I) (vv_e1 I) (vv_hq I) (vv_oi I) (CQ_ok (vv_g I) (vv_ed I) (by omega))
  · exact ev_bWidth5 (vv_ci I) (vv_cz I) (vv_ri I) (vv_e1 I) (vv_hq I) (vv_oi I)
theorem b_ord (I : INV A F n nb ed wt c) {kd : Nat} (hk : kd ≤ 5) {k : Nat} (hkn : k < n) : ∃ (A2 : Nat → Nat → Int32) (F2 : Nat → Int32), mv_Ev xs Ls 18 47 [.ref 0, .int (nI kd), .int (nI k)] (MW A B F sw) (some (.int (A2 (9 + kd) k)), MW A2 B F2 sw, 0, 0) ∧ SP A A2 F F2 n nb ed kd := by
  rcases kd_cs hk with rfl | rfl | rfl | rfl | rfl | rfl
  · exact ev_bOrder0 (vv_ci I) (vv_cz I) (vv_ri I) (vv_e1 I) (vv_hq I) (vv_oi I) (CQ_ok (vv_g I) (vv_ed I) (by omega)) hkn
  · exact ev_bOrder1 (vv_ci I) (vv_cz I) (vv_ri I) (vv_e1 I) (vv_hq I) (vv_oi I) (CQ_ok (vv_g I) (vv_ed I) (by omega)) hkn
  · exact ev_bOrder2 (vv_ci I) (vv_cz I) (vv_ri I) (vv_e1 I) (vv_hq I) (vv_oi I) hkn
  · exact ev_bOrder3 (vv_ci I) (vv_cz I) (vv_ri I) (vv_e1 I) (vv_hq I) (vv_oi I) (CQ_ok (vv_g I) (vv_ed I) (by omega)) hkn
  · exact ev_bOrder4 (vv_ci I) (vv_cz I) (vv_ri I) (vv_e1 I) (vv_hq I) (vv_oi I) (CQ_ok (vv_g I) (vv_ed I) (by omega)) hkn
  · exact ev_bOrder5 (vv_ci I) (vv_cz I) (vv_ri I) (vv_e1 I) (vv_hq I) (vv_oi I) hkn
theorem b_seen (I : INV A F n nb ed wt c) {kd : Nat} (hk : kd ≤ 5) {v : Nat} (hv : v < n) : ∃ (A2 : Nat → Nat → Int32) (F2 : Nat → Int32), SP A A2 F F2 n nb ed kd ∧ ∀ (r : Nat → Nat) (k0 : Nat), k0 < n → (∀ j, j < n → A2 (9 + kd) j = nI (r j)) → (∀ j, j < n → r j < n) → r k0 = v → (∀ j, j < k0 → r j ≠ v) → mv_Ev xs Ls 18 48 [.ref 0, .int (nI kd), .int (nI v)] (MW A B F sw) (some (.int (nI (pastN nb (setR r k0) v))), MW A2 B F2 sw, 0, 0) := by
  rcases kd_cs hk with rfl | rfl | rfl | rfl | rfl | rfl
  · exact ev_bSeen0 (vv_ci I) (vv_cz I) (vv_ri I) (vv_e1 I) (vv_hq I) (vv_oi I) (CQ_ok (vv_g I) (vv_ed I) (by omega)) hv
  · exact ev_bSeen1 (vv_ci I) (vv_cz I) (vv_ri I) (vv_e1 I) (vv_hq I) (vv_oi I) (CQ_ok (vv_g I) (vv_ed I) (by omega)) hv
  · exact ev_bSeen2 (vv_ci I) (vv_cz I) (vv_ri I) (vv_e1 I) (vv_hq I) (vv_oi I) hv
  · exact ev_bSeen3 (vv_ci I) (vv_cz I) (vv_ri I) (vv_e1 I) (vv_hq I) (vv_oi I) (CQ_ok (vv_g I) (vv_ed I) (by omega)) hv
  · exact ev_bSeen4 (vv_ci I) (vv_cz I) (vv_ri I) (vv_e1 I) (vv_hq I) (vv_oi I) (CQ_ok (vv_g I) (vv_ed I) (by omega)) hv
  · exact ev_bSeen5 (vv_ci I) (vv_cz I) (vv_ri I) (vv_e1 I) (vv_hq I) (vv_oi I) hv
theorem b_n1 {kd : Nat} (hk : kd ≤ 5) {y : Int32} (hy : y < 0) : mv_Ev xs Ls 2 47 [.ref 0, .int (nI kd), .int y] (MW A B F sw) (some (.int (-1)), MW A B F sw, 0, 0) := by
  rcases kd_cs hk with rfl | rfl | rfl | rfl | rfl | rfl
  · exact ev_bOrder_n1_0 hy
  · exact ev_bOrder_n1_1 hy
  · exact ev_bOrder_n1_2 hy
  · exact ev_bOrder_n1_3 hy
  · exact ev_bOrder_n1_4 hy
  · exact ev_bOrder_n1_5 hy
theorem b_n2 (I : INV A F n nb ed wt c) {kd : Nat} (hk : kd ≤ 5) {y : Int32} (hy : ¬ y < 0) (hy2 : ¬ y < nI n) : mv_Ev xs Ls 2 47 [.ref 0, .int (nI kd), .int y] (MW A B F sw) (some (.int (-1)), MW A B F sw, 0, 0) := by
  rcases kd_cs hk with rfl | rfl | rfl | rfl | rfl | rfl
  · exact ev_bOrder_n2_0 (vv_ci I) hy hy2
  · exact ev_bOrder_n2_1 (vv_ci I) hy hy2
  · exact ev_bOrder_n2_2 (vv_ci I) hy hy2
  · exact ev_bOrder_n2_3 (vv_ci I) hy hy2
  · exact ev_bOrder_n2_4 (vv_ci I) hy hy2
  · exact ev_bOrder_n2_5 (vv_ci I) hy hy2
theorem b_sv (I : INV A F n nb ed wt c) {kd : Nat} (hk : kd ≤ 5) {y : Int32} (hy : isV y n = false) : mv_Ev xs Ls 2 48 [.ref 0, .int (nI kd), .int y] (MW A B F sw) (some (.int (-2)), MW A B F sw, 0, 0) := by
  rcases kd_cs hk with rfl | rfl | rfl | rfl | rfl | rfl
  · exact ev_bSeen_v_0 (vv_ci I) hy
  · exact ev_bSeen_v_1 (vv_ci I) hy
  · exact ev_bSeen_v_2 (vv_ci I) hy
  · exact ev_bSeen_v_3 (vv_ci I) hy
  · exact ev_bSeen_v_4 (vv_ci I) hy
  · exact ev_bSeen_v_5 (vv_ci I) hy
theorem pr_width (I : INV A F n nb ed wt c) (x : Int32) : PRI xs Ls 30 106 [.int x] A B F sw c := by
  rcases i_cs x with hx | ⟨kd, hk, rfl⟩
  · exact pri_mk (ev_bWidth_f1 hx) (ev_widthM_f (i_neg (by omega) hx)) rfl I (by omega) (by omega)
  · by_cases h6 : kd ≤ 5
    · obtain ⟨A2, F2, h1, hs⟩ := b_wid (xs := xs) (Ls := Ls) (B := B) (sw := sw) I h6
      have I2 := vv_sp I hs
      obtain ⟨A3, w, r, ho, he, h32, hA, hK⟩ := lay_both (xs := xs) (Ls := Ls) (B := B) (sw := sw) I2 h6
      exact pri_mk h1 (ev_widthM h6 he) (hK A2 hs.2.2.2.2.2.2.1).1 (vv_ref I2 (fun k hk => hA k (by omega)) (fun _ _ => rfl)) (by omega) (by omega)
    · exact pri_mk (ev_bWidth_f2 (nI_pos (by omega)) (nI_le (by omega) (by omega))) (ev_widthM_f (i_big hk (by omega) (by omega))) rfl I (by omega) (by omega)
theorem pr_order (I : INV A F n nb ed wt c) (x y : Int32) : PRI xs Ls 47 118 [.int x, .int y] A B F sw c := by
  have hn := vv_n I
  rcases i_cs x with hx | ⟨kd, hk, rfl⟩
  · exact pri_mk (ev_bOrder_f1 hx) (ev_orderM_f (i_neg (by omega) hx)) rfl I (by omega) (by omega)
  · by_cases h6 : kd ≤ 5
    · rcases i_cs y with hy | ⟨k, hy, rfl⟩
      · exact pri_mk (b_n1 h6 hy) (ev_orderM_n (vv_mi I) h6 (isV_neg hn hy)) rfl I (by omega) (by omega)
      · by_cases hkn : k < n
        · obtain ⟨A2, F2, h1, hs⟩ := b_ord (xs := xs) (Ls := Ls) (B := B) (sw := sw) I h6 hkn
          have I2 := vv_sp I hs
          obtain ⟨A3, w, r, ho, he, h32, hA, hK⟩ := lay_both (xs := xs) (Ls := Ls) (B := B) (sw := sw) I2 h6
          exact pri_mk h1 (ev_orderM (vv_mi I2) h6 he hkn) (by rw [(hK A2 hs.2.2.2.2.2.2.1).2 k hkn, h32 k hkn]) (vv_ref I2 (fun k hk => hA k (by omega)) (fun _ _ => rfl)) (by omega) (by omega)
        · exact pri_mk (b_n2 I h6 (nI_pos (by omega)) (fun h => hkn ((nI_ltI hy (by omega)).mp h))) (ev_orderM_n (vv_mi I) h6 (isV_big hn hy (by omega))) rfl I (by omega) (by omega)
    · exact pri_mk (ev_bOrder_f2 (nI_pos (by omega)) (nI_le (by omega) (by omega))) (ev_orderM_f (i_big hk (by omega) (by omega))) rfl I (by omega) (by omega)
theorem pr_seen (I : INV A F n nb ed wt c) (x y : Int32) : PRI xs Ls 48 119 [.int x, .int y] A B F sw c := by
  have hn := vv_n I
  rcases i_cs x with hx | ⟨kd, hk, rfl⟩
  · exact pri_mk (ev_bSeen_f1 hx) (ev_seenM_f (i_neg (by omega) hx)) rfl I (by omega) (by omega)
  · by_cases h6 : kd ≤ 5
    · rcases isV_cs y hn with hy | ⟨v, hv, rfl⟩
      · exact pri_mk (b_sv I h6 hy) (ev_seenM_v (vv_mi I) h6 hy) rfl I (by omega) (by omega)
      · obtain ⟨A2, F2, hs, h1⟩ := b_seen (xs := xs) (Ls := Ls) (B := B) (sw := sw) I h6 hv
        have I2 := vv_sp I hs
        obtain ⟨A3, w, r, ho, he, h32, hA, hK⟩ := lay_both (xs := xs) (Ls := Ls) (B := B) (sw := sw) I2 h6
        obtain ⟨k0, hk0, hr, hne⟩ := ord_at hn ho hv
        have I3 : INV A3 F2 n nb ed wt c := vv_ref I2 (fun k hk => hA k (by omega)) (fun _ _ => rfl)
        exact pri_mk (h1 r k0 hk0 (hK A2 hs.2.2.2.2.2.2.1).2 ho.1 hr hne) (ev_seenM (vv_mi I2) h6 he (vv_mi I3) hk0 h32 ho.1 hr hne) (by rw [seen_eq (vv_g I) ho hk0 hr]) I3 (by omega) (by omega)
    · exact pri_mk (ev_bSeen_f2 (nI_pos (by omega)) (nI_le (by omega) (by omega))) (ev_seenM_f (i_big hk (by omega) (by omega))) rfl I (by omega) (by omega)
end PAIRW
