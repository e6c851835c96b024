/-! queries: pairs of calls -/
section PAIRQ
variable {xs : Nat → Int32} {Ls : Nat} {A A1 A2 : Nat → Nat → Int32} {B B1 B2 : Nat → Nat → Int64} {F F1 F2 : Nat → Int32} {sw sw1 sw2 : Bool} {n ed c : Nat} {nb wt : Nat → Nat}
theorem pick_neg {p : Nat → Bool} {k : Int32} (hk : k < 0) : ∀ f s m, m + f < 2 ^ 31 → pickN p k f s m = -1
  | 0, s, m, _ => rfl
  | f + 1, s, m, h => by
    unfold pickN
    by_cases hp : p s = true
    · rw [if_pos hp, if_neg (fun e => nI_pos (n := m) (by omega) (by rw [e]; exact hk))]
      exact pick_neg hk f _ _ (by omega)
    · rw [if_neg hp]
      exact pick_neg hk f _ _ (by omega)
theorem pr_sep (I : INV A F n nb ed wt c) (x : Int32) : PRI xs Ls 50 101 [.int x] A B F sw c := by
  have hp := pow10 (vv_n I)
  obtain ⟨r4, r5, r6, h1, hR, hZ⟩ := ev_bSep (xs := xs) (Ls := Ls) (B := B) (sw := sw) (vv_ci I) (vv_cz I) (vv_ri I) x
  have I2 := vv_rows I hR hZ
  by_cases hx : x < 0
  · exact pri_mk h1 (ev_separator_f (vv_mi I2) hx) (pick_neg hx _ _ _ (by omega)) I2 (by omega) (by omega)
  · exact pri_mk h1 (ev_separator_t (vv_mi I2) hx) (pick_congr _ _ _ (fun u _ hu => sep_eq (vv_g I) (by omega))) I2 (by omega) (by omega)
theorem pr_clique (I : INV A F n nb ed wt c) (x : Int32) : PRI xs Ls 53 104 [.int x] A B F sw c := by
  have hp := pow10 (vv_n I)
  have h0 : 1 ≤ 2 ^ n := Nat.one_le_two_pow
  have h1 := ev_bClique (xs := xs) (Ls := Ls) (B := B) (sw := sw) (vv_ci I) x
  by_cases hx : x < 0
  · exact pri_mk h1 (ev_clique_f (vv_mi I) hx) (pick_neg hx _ _ _ (by omega)) I (by omega) (by omega)
  · exact pri_mk h1 (ev_clique_t (vv_mi I) hx) (pick_congr _ _ _ (fun u _ hu => clique_eq (vv_g I) (by omega))) I (by omega) (by omega)
theorem pr_count (I : INV A F n nb ed wt c) (x : Int32) : PRI xs Ls 15 92 [.int x] A B F sw c := by
  cases hx : outN x 6 with
  | true => exact pri_mk (ev_bCount_f hx) (ev_count_f hx) rfl I (by omega) (by omega)
  | false =>
    obtain ⟨k, hk, rfl⟩ := out_in (by omega) hx
    have hk : k = 0 ∨ k = 1 ∨ k = 2 ∨ k = 3 ∨ k = 4 ∨ k = 5 ∨ k = 6 := by omega
    rcases hk with rfl | rfl | rfl | rfl | rfl | rfl | rfl
    · exact pri_mk (ev_bCount0 (vv_ci I)) (ev_count0 (vv_mi I)) rfl I (by omega) (by omega)
    · exact pri_mk (ev_bCount1 (vv_ci I) (vv_e1 I)) (ev_count1 (vv_mi I) (vv_e7 I)) rfl I (by omega) (by omega)
    · obtain ⟨r4, r5, r6, h1, hR, hZ⟩ := ev_bCount2 (xs := xs) (Ls := Ls) (B := B) (sw := sw) (vv_ci I) (vv_cz I) (vv_ri I)
      have I2 := vv_rows I hR hZ
      exact pri_mk h1 (ev_count2 (vv_mi I2)) (by rw [cpr_parts (vv_g I)]) I2 (by omega) (by omega)
    · exact pri_mk (ev_bCount3 (vv_ci I)) (ev_count3 (vv_mi I)) rfl I (by omega) (by omega)
    · exact pri_mk (ev_bCount4 (vv_ci I)) (ev_count4 (vv_mi I)) (by rw [core_eq (vv_g I)]) I (by omega) (by omega)
    · obtain ⟨r4, r5, r6, h1, hR, hZ⟩ := ev_bCount5 (xs := xs) (Ls := Ls) (B := B) (sw := sw) (vv_ci I) (vv_cz I) (vv_ri I)
      have I2 := vv_rows I hR hZ
      exact pri_mk h1 (ev_count5 (vv_mi I2)) (by rw [holes_eq (vv_g I)]) I2 (by omega) (by omega)
    · obtain ⟨r4, r5, r6, h1, hR, hZ⟩ := ev_bCount6 (xs := xs) (Ls := Ls) (B := B) (sw := sw) (vv_ci I) (vv_cz I) (vv_ri I)
      have I2 := vv_rows I hR hZ
      exact pri_mk h1 (ev_count6 (vv_mi I2)) (short_eq (vv_g I)) I2 (by omega) (by omega)
theorem vv_f8 (I : INV A F n nb ed wt c) (x : Int32) : INV A (upF F 8 x) n nb ed wt c := vv_ref I (fun _ _ => rfl) (fun k hk => upF_ne (by omega))
theorem pr_best (I : INV A F n nb ed wt c) (x : Int32) : PRI xs Ls 76 131 [.int x] A B F sw c := by
  rcases i_cs x with hx | ⟨k, hk, rfl⟩
  · exact pri_mk (ev_bBest_f1 hx) (ev_best_f (i_neg (by omega) hx)) rfl I (by omega) (by omega)
  · by_cases h5 : k < 5
    · have hk : k = 0 ∨ k = 1 ∨ k = 2 ∨ k = 3 ∨ k = 4 := by omega
      rcases hk with rfl | rfl | rfl | rfl | rfl
      · obtain ⟨r4, r5, r6, h1, hR, hZ⟩ := ev_bBest0 (xs := xs) (Ls := Ls) (B := B) (sw := sw) (vv_ci I) (vv_cz I) (vv_ri I) (vv_cw I)
        have I2 := vv_rows I hR hZ
        exact pri_mk h1 (ev_best0 (vv_mi I2) (vv_mw I2)) (seek_eq (vv_g I) _ (Nat.le_refl _)).2 (vv_f8 I2 _) (by omega) (by omega)
      · obtain ⟨r4, r5, r6, h1, hR, hZ⟩ := ev_bBest1 (xs := xs) (Ls := Ls) (B := B) (sw := sw) (vv_ci I) (vv_cz I) (vv_ri I) (vv_cw I)
        have I2 := vv_rows I hR hZ
        exact pri_mk h1 (ev_best1 (vv_mi I2) (vv_mw I2)) (seek_eq (vv_g I) _ (Nat.le_refl _)).2 (vv_f8 I2 _) (by omega) (by omega)
      · obtain ⟨r4, r5, r6, h1, hR, hZ⟩ := ev_bBest2 (xs := xs) (Ls := Ls) (B := B) (sw := sw) (vv_ci I) (vv_cz I) (vv_ri I) (vv_cw I)
        have I2 := vv_rows I hR hZ
        exact pri_mk h1 (ev_best2 (vv_mi I2) (vv_mw I2)) (seek_eq (vv_g I) _ (Nat.le_refl _)).2 (vv_f8 I2 _) (by omega) (by omega)
      · obtain ⟨r4, r5, r6, h1, hR, hZ⟩ := ev_bBest3 (xs := xs) (Ls := Ls) (B := B) (sw := sw) (vv_ci I) (vv_cz I) (vv_ri I) (vv_cw I)
        have I2 := vv_rows I hR hZ
        exact pri_mk h1 (ev_best3 (vv_mi I2) (vv_mw I2)) (seek_eq (vv_g I) _ (Nat.le_refl _)).2 (vv_f8 I2 _) (by omega) (by omega)
      · obtain ⟨r4, r5, r6, h1, hR, hZ⟩ := ev_bBest4 (xs := xs) (Ls := Ls) (B := B) (sw := sw) (vv_ci I) (vv_cz I) (vv_ri I) (vv_cw I)
        have I2 := vv_rows I hR hZ
        exact pri_mk h1 (ev_best4 (vv_mi I2) (vv_mw I2)) (seek_eq (vv_g I) _ (Nat.le_refl _)).2 (vv_f8 I2 _) (by omega) (by omega)
    · exact pri_mk (ev_bBest_f2 (nI_pos (by omega)) (fun h => h5 ((nI_ltI hk (by omega)).mp h))) (ev_best_f (i_big hk (by omega) (by omega))) rfl I (by omega) (by omega)
theorem pr_which (I : INV A F n nb ed wt c) (x : Int32) : PRI xs Ls 80 136 [.int x] A B F sw c := by
  rcases i_cs x with hx | ⟨k, hk, rfl⟩
  · exact pri_mk (ev_bWhich_f1 hx) (ev_which_f (i_neg (by omega) hx)) rfl I (by omega) (by omega)
  · by_cases h5 : k < 5
    · have hk : k = 0 ∨ k = 1 ∨ k = 2 ∨ k = 3 ∨ k = 4 := by omega
      rcases hk with rfl | rfl | rfl | rfl | rfl
      · obtain ⟨r4, r5, r6, h1, hR, hZ⟩ := ev_bWhich0 (xs := xs) (Ls := Ls) (B := B) (sw := sw) (vv_ci I) (vv_cz I) (vv_ri I) (vv_cw I)
        have I2 := vv_rows I hR hZ
        exact pri_mk h1 (ev_which0 (vv_mi I2) (vv_mw I2)) (seek_eq (vv_g I) _ (Nat.le_refl _)).1 (vv_f8 I2 _) (by omega) (by omega)
      · obtain ⟨r4, r5, r6, h1, hR, hZ⟩ := ev_bWhich1 (xs := xs) (Ls := Ls) (B := B) (sw := sw) (vv_ci I) (vv_cz I) (vv_ri I) (vv_cw I)
        have I2 := vv_rows I hR hZ
        exact pri_mk h1 (ev_which1 (vv_mi I2) (vv_mw I2)) (seek_eq (vv_g I) _ (Nat.le_refl _)).1 (vv_f8 I2 _) (by omega) (by omega)
      · obtain ⟨r4, r5, r6, h1, hR, hZ⟩ := ev_bWhich2 (xs := xs) (Ls := Ls) (B := B) (sw := sw) (vv_ci I) (vv_cz I) (vv_ri I) (vv_cw I)
        have I2 := vv_rows I hR hZ
        exact pri_mk h1 (ev_which2 (vv_mi I2) (vv_mw I2)) (seek_eq (vv_g I) _ (Nat.le_refl _)).1 (vv_f8 I2 _) (by omega) (by omega)
      · obtain ⟨r4, r5, r6, h1, hR, hZ⟩ := ev_bWhich3 (xs := xs) (Ls := Ls) (B := B) (sw := sw) (vv_ci I) (vv_cz I) (vv_ri I) (vv_cw I)
        have I2 := vv_rows I hR hZ
        exact pri_mk h1 (ev_which3 (vv_mi I2) (vv_mw I2)) (seek_eq (vv_g I) _ (Nat.le_refl _)).1 (vv_f8 I2 _) (by omega) (by omega)
      · obtain ⟨r4, r5, r6, h1, hR, hZ⟩ := ev_bWhich4 (xs := xs) (Ls := Ls) (B := B) (sw := sw) (vv_ci I) (vv_cz I) (vv_ri I) (vv_cw I)
        have I2 := vv_rows I hR hZ
        exact pri_mk h1 (ev_which4 (vv_mi I2) (vv_mw I2)) (seek_eq (vv_g I) _ (Nat.le_refl _)).1 (vv_f8 I2 _) (by omega) (by omega)
    · exact pri_mk (ev_bWhich_f2 (nI_pos (by omega)) (fun h => h5 ((nI_ltI hk (by omega)).mp h))) (ev_which_f (i_big hk (by omega) (by omega))) rfl I (by omega) (by omega)
theorem pr_few (I : INV A F n nb ed wt c) (x : Int32) : PRI xs Ls 81 137 [.int x] A B F sw c := by
  rcases i_cs x with hx | ⟨t, ht, rfl⟩
  · exact pri_mk (ev_bFew_f1 (vv_ci I) hx) (ev_fewest_f1 (vv_mi I) hx) rfl I (by omega) (by omega)
  · by_cases h2 : t < 2 ^ n
    · by_cases h0 : t = 0
      · subst h0
        exact pri_mk (ev_bFew_0 (vv_ci I)) (ev_fewest_ok (vv_mi I) h2) (few_0 (vv_g I)).symm I (by omega) (by omega)
      · obtain ⟨r4, r5, r6, h1, hR, hZ⟩ := ev_bFew (xs := xs) (Ls := Ls) (B := B) (sw := sw) (vv_ci I) (vv_cz I) (vv_ri I) h2 h0
        have I2 := vv_rows I hR hZ
        exact pri_mk h1 (ev_fewest_ok (vv_mi I2) h2) (few_eq (vv_g I) h2 h0) I2 (by omega) (by omega)
    · exact pri_mk (ev_bFew_f2 (vv_ci I) ht h2) (ev_fewest_f2 (vv_mi I) ht h2) rfl I (by omega) (by omega)
theorem pr_total (I : INV A F n nb ed wt c) (x y : Int32) : PRL xs Ls 56 120 [.int x, .int y] A B F sw c := by
  have h0 : 1 ≤ 2 ^ n := Nat.one_le_two_pow
  rcases i_cs x with hx | ⟨k, hk, rfl⟩
  · exact prl_mk (ev_bTotal_f1 hx) (ev_total_f1 (i_neg (by omega) hx)) rfl I (by omega) (by omega)
  · by_cases h14 : k < 14
    · have hk : k = 0 ∨ k = 1 ∨ k = 2 ∨ k = 3 ∨ k = 4 ∨ k = 5 ∨ k = 6 ∨ k = 7 ∨ k = 8 ∨ k = 9 ∨ k = 10 ∨ k = 11 ∨ k = 12 ∨ k = 13 := by omega
      rcases hk with rfl | rfl | rfl | rfl | rfl | rfl | rfl | rfl | rfl | rfl | rfl | rfl | rfl | rfl
      · obtain ⟨r4, r5, r6, h1, hR, hZ⟩ := ev_bTotal0 (xs := xs) (Ls := Ls) (B := B) (sw := sw) (vv_ci I) (vv_cz I) (vv_ri I) y
        have I2 := vv_rows I hR hZ
        exact prl_mk h1 (ev_total0 (vv_mi I2) y) (apartC_eq (vv_g I)) I2 (by omega) (by omega)
      · rcases i_cs y with hy | ⟨q, hq, rfl⟩
        · exact prl_mk (ev_bTotal_f3 hy) (ev_total_f2 (i_neg (by omega) hy)) rfl I (by omega) (by omega)
        · by_cases h10 : q ≤ 10
          · obtain ⟨r4, r5, r6, h1, hR, hZ⟩ := ev_bTotal1 (xs := xs) (Ls := Ls) (B := B) (sw := sw) (vv_ci I) (vv_cz I) (vv_ri I) (nI q) (nI_pos (by omega)) (nI_le h10 (by omega))
            have I2 := vv_rows I hR hZ
            exact prl_mk h1 (ev_total1 (vv_mi I2) (nI q) (nI_le (by omega) (by omega)) (nI_le h10 (by omega))) (col_eq (vv_g I)) I2 (by omega) (by omega)
          · exact prl_mk (ev_bTotal_f4 (nI_pos (by omega)) (fun h => h10 ((nI_leI hq (by omega)).mp h))) (ev_total_f2 (i_big hq (by omega) (by omega))) rfl I (by omega) (by omega)
      · obtain ⟨r4, r5, r6, h1, hR, hZ⟩ := ev_bTotal2 (xs := xs) (Ls := Ls) (B := B) (sw := sw) (vv_ci I) (vv_cz I) (vv_ri I) y
        have I2 := vv_rows I hR hZ
        exact prl_mk h1 (ev_total2 (vv_mi I2) y) (mat_eq (s := 2 ^ n - 1) (vv_g I) (by rfl) (by omega)) I2 (by omega) (by omega)
      · obtain ⟨r4, r5, r6, h1, hR, hZ⟩ := ev_bTotal3 (xs := xs) (Ls := Ls) (B := B) (sw := sw) (vv_ci I) (vv_cz I) (vv_ri I) y
        have I2 := vv_rows I hR hZ
        exact prl_mk h1 (ev_total3 (vv_mi I2) y) (mat_eq (s := 2 ^ n - 1) (vv_g I) (by rfl) (by omega)) I2 (by omega) (by omega)
      · obtain ⟨r4, r5, r6, h1, hR, hZ⟩ := ev_bTotal4 (xs := xs) (Ls := Ls) (B := B) (sw := sw) (vv_ci I) (vv_cz I) (vv_ri I) y
        have I2 := vv_rows I hR hZ
        exact prl_mk h1 (ev_total4 (vv_mi I2) y) (nearC_eq (vv_g I)) I2 (by omega) (by omega)
      · by_cases h3 : 3 ≤ n
        · obtain ⟨r4, r5, r6, h1, hR, hZ⟩ := ev_bTotal5 (xs := xs) (Ls := Ls) (B := B) (sw := sw) (vv_ci I) (vv_cz I) (vv_ri I) y h3
          have I2 := vv_rows I hR hZ
          exact prl_mk h1 (ev_total5 (vv_mi I2) y h3) (by rw [cring_eq (vv_g I) (by omega), rring_eq (vv_g I) (by omega), ring_any (r := n - 1) (x := 0) (by have := pow10 (vv_n I); omega) (by have := vv_n I; omega) (by omega) (all_t.mpr (by omega)) (all_t.mpr (by omega))]) I2 (by omega) (by omega)
        · obtain ⟨r4, r5, r6, h1, hR, hZ⟩ := ev_bTotal5z (xs := xs) (Ls := Ls) (B := B) (sw := sw) (vv_ci I) (vv_cz I) (vv_ri I) y (by omega)
          have I2 := vv_rows I hR hZ
          exact prl_mk h1 (ev_total5z (vv_mi I2) y (by omega)) rfl I2 (by omega) (by omega)
      · by_cases h2 : 2 ≤ n
        · obtain ⟨r4, r5, r6, h1, hR, hZ⟩ := ev_bTotal6 (xs := xs) (Ls := Ls) (B := B) (sw := sw) (vv_ci I) (vv_cz I) (vv_ri I) y h2
          have I2 := vv_rows I hR hZ
          exact prl_mk h1 (ev_total6 (vv_mi I2) y h2) (by rw [cway_eq (vv_g I) (by omega), rway_eq (vv_g I) (by omega)]) I2 (by omega) (by omega)
        · obtain ⟨r4, r5, r6, h1, hR, hZ⟩ := ev_bTotal6z (xs := xs) (Ls := Ls) (B := B) (sw := sw) (vv_ci I) (vv_cz I) (vv_ri I) y (by omega)
          have I2 := vv_rows I hR hZ
          by_cases h1n : n = 1
          · exact prl_mk h1 (ev_total6a (vv_mi I2) y h1n) (by rw [h1n]; rfl) I2 (by omega) (by omega)
          · have h0n : n = 0 := by omega
            exact prl_mk h1 (ev_total6b (vv_mi I2) y h0n) (by rw [h0n]; rfl) I2 (by omega) (by omega)
      · obtain ⟨r4, r5, r6, h1, hR, hZ⟩ := ev_bTotal7 (xs := xs) (Ls := Ls) (B := B) (sw := sw) (vv_ci I) (vv_cz I) (vv_ri I) y
        have I2 := vv_rows I hR hZ
        by_cases h0n : n = 0
        · exact prl_mk h1 (ev_total7z (vv_mi I2) y h0n) (by rw [h0n]; exact tab_0) I2 (by omega) (by omega)
        · exact prl_mk h1 (ev_total7 (vv_mi I2) y h0n) (tree_eq (vv_g I) (by have := Nat.pow_lt_pow_right (a := 2) (by omega) (show 0 < n by omega); omega) (by omega)) I2 (by omega) (by omega)
      · obtain ⟨r4, r5, r6, h1, hR, hZ⟩ := ev_bTotal8 (xs := xs) (Ls := Ls) (B := B) (sw := sw) (vv_ci I) (vv_cz I) (vv_ri I) y
        have I2 := vv_rows I hR hZ
        exact prl_mk h1 (ev_total8 (vv_mi I2) y) (forest_eq (s := 2 ^ n - 1) (vv_g I) (by rfl) (by omega)) I2 (by omega) (by omega)
      · obtain ⟨r4, r5, r6, h1, hR, hZ⟩ := ev_bTotal9 (xs := xs) (Ls := Ls) (B := B) (sw := sw) (vv_ci I) (vv_cz I) (vv_ri I) y
        have I2 := vv_rows I hR hZ
        refine prl_mk h1 (ev_total9 (vv_mi I2) y) ?_ I2 (by omega) (by omega)
        by_cases h0n : n = 0
        · rw [if_pos h0n, h0n]; exact tab_0
        · rw [if_neg h0n]
          exact join_eq (vv_g I) (by have := Nat.pow_lt_pow_right (a := 2) (by omega) (show 0 < n by omega); omega) (by omega)
      · obtain ⟨r4, r5, r6, h1, hR, hZ⟩ := ev_bTotal10 (xs := xs) (Ls := Ls) (B := B) (sw := sw) (vv_ci I) (vv_cz I) (vv_ri I) y
        have I2 := vv_rows I hR hZ
        exact prl_mk h1 (ev_total10 (vv_mi I2) y) (dir_final (vv_g I) rfl) I2 (by omega) (by omega)
      · obtain ⟨r4, r5, r6, h1, hR, hZ⟩ := ev_bTotal11 (xs := xs) (Ls := Ls) (B := B) (sw := sw) (vv_ci I) (vv_cz I) (vv_ri I) y
        have I2 := vv_rows I hR hZ
        exact prl_mk h1 (ev_total11 (vv_mi I2) y) (coverC_eq (vv_g I)) I2 (by omega) (by omega)
      · obtain ⟨r4, r5, r6, h1, hR, hZ⟩ := ev_bTotal12 (xs := xs) (Ls := Ls) (B := B) (sw := sw) (vv_ci I) (vv_cz I) (vv_ri I) y
        have I2 := vv_rows I hR hZ
        exact prl_mk h1 (ev_total12 (vv_mi I2) y) (wholeC_eq (vv_g I)) I2 (by omega) (by omega)
      · obtain ⟨r4, r5, r6, h1, hR, hZ⟩ := ev_bTotal13 (xs := xs) (Ls := Ls) (B := B) (sw := sw) (vv_ci I) (vv_cz I) (vv_ri I) y (vv_e1 I)
        have I2 := vv_rows I hR hZ
        exact prl_mk h1 (ev_total13 (vv_mi I2) (vv_e7 I2) y) (by rw [cpr_parts (vv_g I)]) I2 (by omega) (by omega)
    · exact prl_mk (ev_bTotal_f2 (nI_pos (by omega)) (fun h => h14 ((nI_ltI hk (by omega)).mp h))) (ev_total_f1 (i_big hk (by omega) (by omega))) rfl I (by omega) (by omega)
end PAIRQ
