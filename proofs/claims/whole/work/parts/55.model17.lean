/-! trees of the reference: a determinant, by whole numbers -/
section WPD
variable {xs : Nat → Int32} {Ls d cls : Nat} {ini : Bool} {ret : Option FieldType} {code : List (Nat × Instr × Nat)} {pc : Nat} {L st : List Value} {w : mv_W} {c k : Nat} {r : mv_R}
theorem wp_ldiv {x y : Int64} (hg : mv_get code pc = some (.ldiv, 1)) (hy : ¬ y = 0) (kk : mv_Wp xs Ls d cls ini ret code (pc + 1, L, .long (x / y) :: st, w, c, k) r) : mv_Wp xs Ls d cls ini ret code (pc, L, .long y :: .long x :: st, w, c, k) r := by
  refine wp_go 1 ?_ kk
  unfold mv_gos
  dsimp only
  rw [hg]
  simp only [mv_one, mv_alu, if_neg hy]
  rfl
end WPD
def lastN (n s : Nat) : Nat := forN (fun v l => if s.testBit v then v else l) n 0
theorem lastN_lt {n s : Nat} (hn : n ≤ 10) : lastN n s ≤ 9 := by
  refine forN_inv (I := fun _ (l : Nat) => l ≤ 9) (by omega) (fun v l hv hl => ?_) n (Nat.le_refl _)
  split
  · omega
  · exact hl
/-- an entry of the square -/
def sqV (nb : Nat → Nat) (s v w : Nat) : Int64 := if v = w then (nI (pop (nb v &&& s))).toInt64 else if (nb v).testBit w then -1 else 0
def sqW (nb : Nat → Nat) (s v m : Nat) : Nat → ((Nat → Int64) × Nat) → ((Nat → Int64) × Nat) := fun w q => if s.testBit w = true then (vp_updL q.1 (10 * m + q.2) (sqV nb s v w), q.2 + 1) else q
def sqR (nb : Nat → Nat) (s l : Nat) : Nat → ((Nat → Int64) × Nat) → ((Nat → Int64) × Nat) := fun v q => if s.testBit v = true then ((forN (sqW nb s v q.2) l (q.1, 0)).1, q.2 + 1) else q
def sqN (n : Nat) (nb : Nat → Nat) (s : Nat) (f : Nat → Int64) : (Nat → Int64) × Nat := forN (sqR nb s (lastN n s)) (lastN n s) (f, 0)
def pivN (f : Nat → Int64) (k m : Nat) : Nat := firstV (fun r => decide (¬ f (10 * r + k) = 0)) (m - k) k
def swpN (f : Nat → Int64) (k r m : Nat) : Nat → Int64 := forN (fun j f => vp_updL (vp_updL f (10 * r + j) (-(f (10 * k + j)))) (10 * k + j) (f (10 * r + j))) m f
def elmJ (k : Nat) (b : Int64) (i : Nat) : Nat → (Nat → Int64) → (Nat → Int64) := fun j f => vp_updL f (10 * i + (k + 1 + j)) ((f (10 * i + (k + 1 + j)) * f (10 * k + k) - f (10 * i + k) * f (10 * k + (k + 1 + j))) / b)
def elmI (k m : Nat) (b : Int64) : Nat → (Nat → Int64) → (Nat → Int64) := fun i f => forN (elmJ k b (k + 1 + i)) (m - (k + 1)) f
def elmN (k m : Nat) (b : Int64) (f : Nat → Int64) : Nat → Int64 := forN (elmI k m b) (m - (k + 1)) f
/-- the square with a pivot at k -/
def putN (f : Nat → Int64) (k m : Nat) : Nat → Int64 := if pivN f k m = k then f else swpN f k (pivN f k m) m
def treeE (m : Nat) : Nat → Nat → (Nat → Int64) → Int64 → Int64 × (Nat → Int64)
  | 0, _, f, b => (b, f)
  | j + 1, k, f, b => if pivN f k m = m then (0, f) else treeE m j (k + 1) (elmN k m b (putN f k m)) (elmN k m b (putN f k m) (10 * k + k))
def treesN (n : Nat) (nb : Nat → Nat) (s : Nat) (f : Nat → Int64) : Int64 × (Nat → Int64) := treeE (sqN n nb s f).2 (sqN n nb s f).2 0 (sqN n nb s f).1 1
theorem piv_all {f : Nat → Int64} {k m : Nat} (hk : k ≤ m) : pivN f k m ≤ m ∧ k ≤ pivN f k m ∧ (pivN f k m < m → ¬ f (10 * pivN f k m + k) = 0) ∧ ∀ r, k ≤ r → r < pivN f k m → f (10 * r + k) = 0 := by
  have h := firstV_all (p := fun r => decide (¬ f (10 * r + k) = 0)) (m - k) k
  change pivN f k m ≤ k + (m - k) ∧ k ≤ pivN f k m ∧ (pivN f k m < k + (m - k) → decide (¬ f (10 * pivN f k m + k) = 0) = true) ∧ ∀ w, k ≤ w → w < pivN f k m → decide (¬ f (10 * w + k) = 0) = false at h
  obtain ⟨h1, h2, h3, h4⟩ := h
  refine ⟨by omega, h2, fun h => of_decide_eq_true (h3 (by omega)), fun r g1 g2 => ?_⟩
  have h5 := h4 r g1 g2
  simpa using h5
theorem vpu_s {f : Nat → Int64} {i : Nat} {x : Int64} : vp_updL f i x i = x := by unfold vp_updL; simp
theorem vpu_n {f : Nat → Int64} {i j : Nat} {x : Int64} (h : j ≠ i) : vp_updL f i x j = f j := by unfold vp_updL; simp [h]
theorem elm_row {k m : Nat} {b : Int64} {f : Nat → Int64} (hm : m ≤ 9) {j : Nat} (hj : j < 10) : elmN k m b f (10 * k + j) = f (10 * k + j) := by
  refine forN_inv (I := fun _ (g : Nat → Int64) => g (10 * k + j) = f (10 * k + j)) rfl (fun i g hi hg => ?_) _ (Nat.le_refl _)
  refine forN_inv (I := fun _ (h : Nat → Int64) => h (10 * k + j) = f (10 * k + j)) hg (fun l h hl hh => ?_) _ (Nat.le_refl _)
  unfold elmJ
  rw [vpu_n (by omega)]
  exact hh
theorem swp_at {f : Nat → Int64} {k r m : Nat} (hm : m ≤ 10) (hkr : k ≠ r) {j : Nat} (hj : j < m) : swpN f k r m (10 * k + j) = f (10 * r + j) := by
  have h := forN_inv (f := fun j (f : Nat → Int64) => vp_updL (vp_updL f (10 * r + j) (-(f (10 * k + j)))) (10 * k + j) (f (10 * r + j))) (n := m) (a := f) (I := fun i (g : Nat → Int64) => ∀ j, j < m → (j < i → g (10 * k + j) = f (10 * r + j)) ∧ (i ≤ j → g (10 * r + j) = f (10 * r + j))) (fun j hj => ⟨fun h => absurd h (Nat.not_lt_zero _), fun _ => rfl⟩) (fun i g hi hg j hj => ?_) m (Nat.le_refl _)
  · exact (h j hj).1 hj
  · refine ⟨fun h => ?_, fun h => ?_⟩
    · by_cases e : j = i
      · subst e; rw [vpu_s]; exact (hg j hj).2 (Nat.le_refl _)
      · rw [vpu_n (by omega), vpu_n (by omega)]; exact (hg j hj).1 (by omega)
    · rw [vpu_n (by omega), vpu_n (by omega)]; exact (hg j hj).2 (by omega)
theorem put_piv {f : Nat → Int64} {k m : Nat} (hm : m ≤ 9) (hk : k < m) (h : ¬ pivN f k m = m) : ¬ putN f k m (10 * k + k) = 0 := by
  obtain ⟨h1, h2, h3, h4⟩ := piv_all (f := f) (Nat.le_of_lt hk)
  unfold putN
  split
  · rename_i e; rw [e] at h3; exact h3 hk
  · rename_i e
    rw [swp_at (by omega) (fun g => e g.symm) hk]
    exact h3 (by omega)
section MM
variable {xs : Nat → Int32} {Ls : Nat} {A : Nat → Nat → Int32} {B : Nat → Nat → Int64} {F : Nat → Int32} {sw : Bool} {n : Nat} {nb : Nat → Nat}
theorem lp_trE {s m la : Nat} (hm : m ≤ 9) : ∀ (j k : Nat) (f : Nat → Int64) (b : Int64), k + j = m → ¬ b = 0 → ∀ (e7 e8 e9 e10 : Value), mv_Wp xs Ls 2 6 false (some .long) mv_c125 (157, [.ref 28, .int (nI s), .int (nI m), .int (nI la), .long b, .retAddr 0, .int (nI k), e7, e8, e9, e10], [], MW A (upB B 41 f) F sw, 0, 0) (some (.long (treeE m j k f b).1), MW A (upB B 41 (treeE m j k f b).2) F sw, 0, 0) := by
  intro j
  induction j with
  | zero =>
    intro k f b hkm hb e7 e8 e9 e10
    refine wp_go (f' := ((if (nI m) ≤ (nI k) then 412 else 163), [.ref 28, .int (nI s), .int (nI m), .int (nI la), .long b, .retAddr 0, .int (nI k), e7, e8, e9, e10], [], MW A (upB B 41 f) F sw, 0, 0)) 3 rfl ?_
    refine wp_ite (fun _ => ?_) (fun h9 => absurd (nI_le (by omega) (by omega)) h9)
    refine wp_go (f' := (414, [.ref 28, .int (nI s), .int (nI m), .int (nI la), .long b, .retAddr 0, .int (nI k), e7, e8, e9, e10], [.long b], MW A (upB B 41 f) F sw, 0, 0)) 1 rfl ?_
    exact wp_lret rfl
  | succ j ih =>
    intro k f b hkm hb e7 e8 e9 e10
    obtain ⟨v1, v2, v3, v4⟩ := piv_all (f := f) (k := k) (m := m) (by omega)
    refine wp_go (f' := ((if (nI m) ≤ (nI k) then 412 else 163), [.ref 28, .int (nI s), .int (nI m), .int (nI la), .long b, .retAddr 0, .int (nI k), e7, e8, e9, e10], [], MW A (upB B 41 f) F sw, 0, 0)) 3 rfl ?_
    refine wp_ite (fun h9 => absurd h9 (nI_ge (by omega) (by omega))) (fun _ => ?_)
    refine wp_go (f' := (167, [.ref 28, .int (nI s), .int (nI m), .int (nI la), .long b, .retAddr 0, .int (nI k), .int (nI k), e8, e9, e10], [], MW A (upB B 41 f) F sw, 0, 0)) 2 rfl ?_
    have hdone : mv_Wp xs Ls 2 6 false (some .long) mv_c125 (197, [.ref 28, .int (nI s), .int (nI m), .int (nI la), .long b, .retAddr 0, .int (nI k), .int (nI (pivN f k m)), e8, e9, e10], [], MW A (upB B 41 f) F sw, 0, 0) (some (.long (treeE m (j + 1) k f b).1), MW A (upB B 41 (treeE m (j + 1) k f b).2) F sw, 0, 0) := by
      by_cases hpm : (pivN f k m) = m
      · rw [show treeE m (j + 1) k f b = (0, f) by unfold treeE; rw [if_pos hpm]]
        refine wp_go (f' := ((if ¬ (nI (pivN f k m)) = (nI m) then 205 else 203), [.ref 28, .int (nI s), .int (nI m), .int (nI la), .long b, .retAddr 0, .int (nI k), .int (nI (pivN f k m)), e8, e9, e10], [], MW A (upB B 41 f) F sw, 0, 0)) 3 rfl ?_
        refine wp_ite (fun h9 => absurd h9 (fun h8 => h8 (congrArg nI hpm))) (fun _ => ?_)
        refine wp_go (f' := (204, [.ref 28, .int (nI s), .int (nI m), .int (nI la), .long b, .retAddr 0, .int (nI k), .int (nI (pivN f k m)), e8, e9, e10], [.long 0], MW A (upB B 41 f) F sw, 0, 0)) 1 rfl ?_
        exact wp_lret rfl
      · have hpiv := put_piv hm (by omega) hpm
        rw [show treeE m (j + 1) k f b = treeE m j (k + 1) (elmN k m b (putN f k m)) ((elmN k m b (putN f k m)) (10 * k + k)) by show (if _ then _ else _) = _; rw [if_neg hpm]]
        have hEk : (elmN k m b (putN f k m)) (10 * k + k) = (putN f k m) (10 * k + k) := elm_row hm (by omega)
        have helm : ∀ e8 e9 e10 : Value, mv_Wp xs Ls 2 6 false (some .long) mv_c125 (284, [.ref 28, .int (nI s), .int (nI m), .int (nI la), .long b, .retAddr 0, .int (nI k), .int (nI (pivN f k m)), e8, e9, e10], [], MW A (upB B 41 (putN f k m)) F sw, 0, 0) (some (.long (treeE m j (k + 1) (elmN k m b (putN f k m)) ((elmN k m b (putN f k m)) (10 * k + k))).1), MW A (upB B 41 (treeE m j (k + 1) (elmN k m b (putN f k m)) ((elmN k m b (putN f k m)) (10 * k + k))).2) F sw, 0, 0) := by
          intro e8 e9 e10
          refine wp_go (f' := (288, [.ref 28, .int (nI s), .int (nI m), .int (nI la), .long b, .retAddr 0, .int (nI k), .int (nI (pivN f k m)), e8, e9, e10], [.int ((nI k) + (nI 1))], MW A (upB B 41 (putN f k m)) F sw, 0, 0)) 3 rfl ?_
          rw [nI_add]
          refine wp_go (f' := (290, [.ref 28, .int (nI s), .int (nI m), .int (nI la), .long b, .retAddr 0, .int (nI k), .int (nI (pivN f k m)), .int (nI (k + 1)), e9, e10], [], MW A (upB B 41 (putN f k m)) F sw, 0, 0)) 1 rfl ?_
          refine for_ind (P := fun (i : Nat) (g : Nat → Int64) => ∀ e9 e10 : Value, mv_Wp xs Ls 2 6 false (some .long) mv_c125 (290, [.ref 28, .int (nI s), .int (nI m), .int (nI la), .long b, .retAddr 0, .int (nI k), .int (nI (pivN f k m)), .int (nI (k + 1 + i)), e9, e10], [], MW A (upB B 41 g) F sw, 0, 0) (some (.long (treeE m j (k + 1) (elmN k m b (putN f k m)) ((elmN k m b (putN f k m)) (10 * k + k))).1), MW A (upB B 41 (treeE m j (k + 1) (elmN k m b (putN f k m)) ((elmN k m b (putN f k m)) (10 * k + k))).2) F sw, 0, 0)) (f := elmI k m b) (n := m - (k + 1)) ?_ (m - (k + 1)) (putN f k m) (Nat.le_refl _) ?_ _ _
          · intro i g hi ih2 e9 e10
            refine wp_go (f' := ((if (nI m) ≤ (nI (k + 1 + i)) then 391 else 296), [.ref 28, .int (nI s), .int (nI m), .int (nI la), .long b, .retAddr 0, .int (nI k), .int (nI (pivN f k m)), .int (nI (k + 1 + i)), e9, e10], [], MW A (upB B 41 g) F sw, 0, 0)) 3 rfl ?_
            refine wp_ite (fun h9 => absurd h9 (nI_ge (by omega) (by omega))) (fun _ => ?_)
            refine wp_go (f' := (300, [.ref 28, .int (nI s), .int (nI m), .int (nI la), .long b, .retAddr 0, .int (nI k), .int (nI (pivN f k m)), .int (nI (k + 1 + i)), e9, e10], [.int ((nI k) + (nI 1))], MW A (upB B 41 g) F sw, 0, 0)) 3 rfl ?_
            rw [nI_add]
            refine wp_go (f' := (302, [.ref 28, .int (nI s), .int (nI m), .int (nI la), .long b, .retAddr 0, .int (nI k), .int (nI (pivN f k m)), .int (nI (k + 1 + i)), .int (nI (k + 1)), e10], [], MW A (upB B 41 g) F sw, 0, 0)) 1 rfl ?_
            refine for_ind (P := fun (l : Nat) (u : Nat → Int64) => mv_Wp xs Ls 2 6 false (some .long) mv_c125 (302, [.ref 28, .int (nI s), .int (nI m), .int (nI la), .long b, .retAddr 0, .int (nI k), .int (nI (pivN f k m)), .int (nI (k + 1 + i)), .int (nI (k + 1 + l)), e10], [], MW A (upB B 41 u) F sw, 0, 0) (some (.long (treeE m j (k + 1) (elmN k m b (putN f k m)) ((elmN k m b (putN f k m)) (10 * k + k))).1), MW A (upB B 41 (treeE m j (k + 1) (elmN k m b (putN f k m)) ((elmN k m b (putN f k m)) (10 * k + k))).2) F sw, 0, 0)) (f := elmJ k b (k + 1 + i)) (n := m - (k + 1)) ?_ (m - (k + 1)) g (Nat.le_refl _) ?_
            · intro l u hl ih3
              refine wp_go (f' := ((if (nI m) ≤ (nI (k + 1 + l)) then 385 else 308), [.ref 28, .int (nI s), .int (nI m), .int (nI la), .long b, .retAddr 0, .int (nI k), .int (nI (pivN f k m)), .int (nI (k + 1 + i)), .int (nI (k + 1 + l)), e10], [], MW A (upB B 41 u) F sw, 0, 0)) 3 rfl ?_
              refine wp_ite (fun h9 => absurd h9 (nI_ge (by omega) (by omega))) (fun _ => ?_)
              refine wp_go (f' := (317, [.ref 28, .int (nI s), .int (nI m), .int (nI la), .long b, .retAddr 0, .int (nI k), .int (nI (pivN f k m)), .int (nI (k + 1 + i)), .int (nI (k + 1 + l)), e10], [.int ((nI 10) * (nI (k + 1 + i))), .ref 41], MW A (upB B 41 u) F sw, 0, 0)) 5 rfl ?_
              rw [nI_mul]
              refine wp_go (f' := (320, [.ref 28, .int (nI s), .int (nI m), .int (nI la), .long b, .retAddr 0, .int (nI k), .int (nI (pivN f k m)), .int (nI (k + 1 + i)), .int (nI (k + 1 + l)), e10], [.int ((nI (10 * (k + 1 + i))) + (nI (k + 1 + l))), .ref 41], MW A (upB B 41 u) F sw, 0, 0)) 2 rfl ?_
              rw [nI_add]
              refine wp_go (f' := (329, [.ref 28, .int (nI s), .int (nI m), .int (nI la), .long b, .retAddr 0, .int (nI k), .int (nI (pivN f k m)), .int (nI (k + 1 + i)), .int (nI (k + 1 + l)), e10], [.int ((nI 10) * (nI (k + 1 + i))), .ref 41, .int (nI ((10 * (k + 1 + i)) + (k + 1 + l))), .ref 41], MW A (upB B 41 u) F sw, 0, 0)) 5 rfl ?_
              rw [nI_mul]
              refine wp_go (f' := (332, [.ref 28, .int (nI s), .int (nI m), .int (nI la), .long b, .retAddr 0, .int (nI k), .int (nI (pivN f k m)), .int (nI (k + 1 + i)), .int (nI (k + 1 + l)), e10], [.int ((nI (10 * (k + 1 + i))) + (nI (k + 1 + l))), .ref 41, .int (nI ((10 * (k + 1 + i)) + (k + 1 + l))), .ref 41], MW A (upB B 41 u) F sw, 0, 0)) 2 rfl ?_
              rw [nI_add]
              refine wp_lald rfl rfl (by omega) (by decide) ?_
              refine wp_eq (f' := (333, [.ref 28, .int (nI s), .int (nI m), .int (nI la), .long b, .retAddr 0, .int (nI k), .int (nI (pivN f k m)), .int (nI (k + 1 + i)), .int (nI (k + 1 + l)), e10], [.long (u ((10 * (k + 1 + i)) + (k + 1 + l))), .int (nI ((10 * (k + 1 + i)) + (k + 1 + l))), .ref 41], MW A (upB B 41 u) F sw, 0, 0)) rfl ?_
              refine wp_go (f' := (342, [.ref 28, .int (nI s), .int (nI m), .int (nI la), .long b, .retAddr 0, .int (nI k), .int (nI (pivN f k m)), .int (nI (k + 1 + i)), .int (nI (k + 1 + l)), e10], [.int ((nI 10) * (nI k)), .ref 41, .long (u ((10 * (k + 1 + i)) + (k + 1 + l))), .int (nI ((10 * (k + 1 + i)) + (k + 1 + l))), .ref 41], MW A (upB B 41 u) F sw, 0, 0)) 5 rfl ?_
              rw [nI_mul]
              refine wp_go (f' := (345, [.ref 28, .int (nI s), .int (nI m), .int (nI la), .long b, .retAddr 0, .int (nI k), .int (nI (pivN f k m)), .int (nI (k + 1 + i)), .int (nI (k + 1 + l)), e10], [.int ((nI (10 * k)) + (nI k)), .ref 41, .long (u ((10 * (k + 1 + i)) + (k + 1 + l))), .int (nI ((10 * (k + 1 + i)) + (k + 1 + l))), .ref 41], MW A (upB B 41 u) F sw, 0, 0)) 2 rfl ?_
              rw [nI_add]
              refine wp_lald rfl rfl (by omega) (by decide) ?_
              refine wp_eq (f' := (346, [.ref 28, .int (nI s), .int (nI m), .int (nI la), .long b, .retAddr 0, .int (nI k), .int (nI (pivN f k m)), .int (nI (k + 1 + i)), .int (nI (k + 1 + l)), e10], [.long (u ((10 * k) + k)), .long (u ((10 * (k + 1 + i)) + (k + 1 + l))), .int (nI ((10 * (k + 1 + i)) + (k + 1 + l))), .ref 41], MW A (upB B 41 u) F sw, 0, 0)) rfl ?_
              refine wp_go (f' := (356, [.ref 28, .int (nI s), .int (nI m), .int (nI la), .long b, .retAddr 0, .int (nI k), .int (nI (pivN f k m)), .int (nI (k + 1 + i)), .int (nI (k + 1 + l)), e10], [.int ((nI 10) * (nI (k + 1 + i))), .ref 41, .long ((u ((10 * (k + 1 + i)) + (k + 1 + l))) * (u ((10 * k) + k))), .int (nI ((10 * (k + 1 + i)) + (k + 1 + l))), .ref 41], MW A (upB B 41 u) F sw, 0, 0)) 6 rfl ?_
              rw [nI_mul]
              refine wp_go (f' := (359, [.ref 28, .int (nI s), .int (nI m), .int (nI la), .long b, .retAddr 0, .int (nI k), .int (nI (pivN f k m)), .int (nI (k + 1 + i)), .int (nI (k + 1 + l)), e10], [.int ((nI (10 * (k + 1 + i))) + (nI k)), .ref 41, .long ((u ((10 * (k + 1 + i)) + (k + 1 + l))) * (u ((10 * k) + k))), .int (nI ((10 * (k + 1 + i)) + (k + 1 + l))), .ref 41], MW A (upB B 41 u) F sw, 0, 0)) 2 rfl ?_
              rw [nI_add]
              refine wp_lald rfl rfl (by omega) (by decide) ?_
              refine wp_eq (f' := (360, [.ref 28, .int (nI s), .int (nI m), .int (nI la), .long b, .retAddr 0, .int (nI k), .int (nI (pivN f k m)), .int (nI (k + 1 + i)), .int (nI (k + 1 + l)), e10], [.long (u ((10 * (k + 1 + i)) + k)), .long ((u ((10 * (k + 1 + i)) + (k + 1 + l))) * (u ((10 * k) + k))), .int (nI ((10 * (k + 1 + i)) + (k + 1 + l))), .ref 41], MW A (upB B 41 u) F sw, 0, 0)) rfl ?_
              refine wp_go (f' := (369, [.ref 28, .int (nI s), .int (nI m), .int (nI la), .long b, .retAddr 0, .int (nI k), .int (nI (pivN f k m)), .int (nI (k + 1 + i)), .int (nI (k + 1 + l)), e10], [.int ((nI 10) * (nI k)), .ref 41, .long (u ((10 * (k + 1 + i)) + k)), .long ((u ((10 * (k + 1 + i)) + (k + 1 + l))) * (u ((10 * k) + k))), .int (nI ((10 * (k + 1 + i)) + (k + 1 + l))), .ref 41], MW A (upB B 41 u) F sw, 0, 0)) 5 rfl ?_
              rw [nI_mul]
              refine wp_go (f' := (372, [.ref 28, .int (nI s), .int (nI m), .int (nI la), .long b, .retAddr 0, .int (nI k), .int (nI (pivN f k m)), .int (nI (k + 1 + i)), .int (nI (k + 1 + l)), e10], [.int ((nI (10 * k)) + (nI (k + 1 + l))), .ref 41, .long (u ((10 * (k + 1 + i)) + k)), .long ((u ((10 * (k + 1 + i)) + (k + 1 + l))) * (u ((10 * k) + k))), .int (nI ((10 * (k + 1 + i)) + (k + 1 + l))), .ref 41], MW A (upB B 41 u) F sw, 0, 0)) 2 rfl ?_
              rw [nI_add]
              refine wp_lald rfl rfl (by omega) (by decide) ?_
              refine wp_eq (f' := (373, [.ref 28, .int (nI s), .int (nI m), .int (nI la), .long b, .retAddr 0, .int (nI k), .int (nI (pivN f k m)), .int (nI (k + 1 + i)), .int (nI (k + 1 + l)), e10], [.long (u ((10 * k) + (k + 1 + l))), .long (u ((10 * (k + 1 + i)) + k)), .long ((u ((10 * (k + 1 + i)) + (k + 1 + l))) * (u ((10 * k) + k))), .int (nI ((10 * (k + 1 + i)) + (k + 1 + l))), .ref 41], MW A (upB B 41 u) F sw, 0, 0)) rfl ?_
              refine wp_go (f' := (377, [.ref 28, .int (nI s), .int (nI m), .int (nI la), .long b, .retAddr 0, .int (nI k), .int (nI (pivN f k m)), .int (nI (k + 1 + i)), .int (nI (k + 1 + l)), e10], [.long b, .long (((u ((10 * (k + 1 + i)) + (k + 1 + l))) * (u ((10 * k) + k))) - ((u ((10 * (k + 1 + i)) + k)) * (u ((10 * k) + (k + 1 + l))))), .int (nI ((10 * (k + 1 + i)) + (k + 1 + l))), .ref 41], MW A (upB B 41 u) F sw, 0, 0)) 3 rfl ?_
              refine wp_ldiv rfl hb ?_
              refine wp_last rfl rfl (by omega) (by decide) ?_
              refine wp_eq (f' := (379, [.ref 28, .int (nI s), .int (nI m), .int (nI la), .long b, .retAddr 0, .int (nI k), .int (nI (pivN f k m)), .int (nI (k + 1 + i)), .int (nI (k + 1 + l)), e10], [], MW A (upB B 41 (vp_updL u ((10 * (k + 1 + i)) + (k + 1 + l)) ((((u ((10 * (k + 1 + i)) + (k + 1 + l))) * (u ((10 * k) + k))) - ((u ((10 * (k + 1 + i)) + k)) * (u ((10 * k) + (k + 1 + l))))) / b))) F sw, 0, 0)) rfl ?_
              refine wp_go (f' := (382, [.ref 28, .int (nI s), .int (nI m), .int (nI la), .long b, .retAddr 0, .int (nI k), .int (nI (pivN f k m)), .int (nI (k + 1 + i)), .int ((nI (k + 1 + l)) + 1), e10], [], MW A (upB B 41 (vp_updL u ((10 * (k + 1 + i)) + (k + 1 + l)) ((((u ((10 * (k + 1 + i)) + (k + 1 + l))) * (u ((10 * k) + k))) - ((u ((10 * (k + 1 + i)) + k)) * (u ((10 * k) + (k + 1 + l))))) / b))) F sw, 0, 0)) 1 rfl ?_
              rw [nI_1]
              refine wp_go (f' := (302, [.ref 28, .int (nI s), .int (nI m), .int (nI la), .long b, .retAddr 0, .int (nI k), .int (nI (pivN f k m)), .int (nI (k + 1 + i)), .int (nI ((k + 1 + l) + 1)), e10], [], MW A (upB B 41 (vp_updL u ((10 * (k + 1 + i)) + (k + 1 + l)) ((((u ((10 * (k + 1 + i)) + (k + 1 + l))) * (u ((10 * k) + k))) - ((u ((10 * (k + 1 + i)) + k)) * (u ((10 * k) + (k + 1 + l))))) / b))) F sw, 0, 0)) 1 rfl ?_
              exact ih3
            · skip
              refine wp_go (f' := ((if (nI m) ≤ (nI (k + 1 + (m - (k + 1)))) then 385 else 308), [.ref 28, .int (nI s), .int (nI m), .int (nI la), .long b, .retAddr 0, .int (nI k), .int (nI (pivN f k m)), .int (nI (k + 1 + i)), .int (nI (k + 1 + (m - (k + 1)))), e10], [], MW A (upB B 41 (elmI k m b i g)) F sw, 0, 0)) 3 rfl ?_
              refine wp_ite (fun _ => ?_) (fun h9 => absurd (nI_le (by omega) (by omega)) h9)
              refine wp_go (f' := (388, [.ref 28, .int (nI s), .int (nI m), .int (nI la), .long b, .retAddr 0, .int (nI k), .int (nI (pivN f k m)), .int ((nI (k + 1 + i)) + 1), .int (nI (k + 1 + (m - (k + 1)))), e10], [], MW A (upB B 41 (elmI k m b i g)) F sw, 0, 0)) 1 rfl ?_
              rw [nI_1]
              refine wp_go (f' := (290, [.ref 28, .int (nI s), .int (nI m), .int (nI la), .long b, .retAddr 0, .int (nI k), .int (nI (pivN f k m)), .int (nI ((k + 1 + i) + 1)), .int (nI (k + 1 + (m - (k + 1)))), e10], [], MW A (upB B 41 (elmI k m b i g)) F sw, 0, 0)) 1 rfl ?_
              exact ih2 (.int (nI (k + 1 + (m - (k + 1))))) e10
          · intro e9 e10
            refine wp_go (f' := ((if (nI m) ≤ (nI (k + 1 + (m - (k + 1)))) then 391 else 296), [.ref 28, .int (nI s), .int (nI m), .int (nI la), .long b, .retAddr 0, .int (nI k), .int (nI (pivN f k m)), .int (nI (k + 1 + (m - (k + 1)))), e9, e10], [], MW A (upB B 41 (elmN k m b (putN f k m))) F sw, 0, 0)) 3 rfl ?_
            refine wp_ite (fun _ => ?_) (fun h9 => absurd (nI_le (by omega) (by omega)) h9)
            refine wp_go (f' := (400, [.ref 28, .int (nI s), .int (nI m), .int (nI la), .long b, .retAddr 0, .int (nI k), .int (nI (pivN f k m)), .int (nI (k + 1 + (m - (k + 1)))), e9, e10], [.int ((nI 10) * (nI k)), .ref 41], MW A (upB B 41 (elmN k m b (putN f k m))) F sw, 0, 0)) 5 rfl ?_
            rw [nI_mul]
            refine wp_go (f' := (403, [.ref 28, .int (nI s), .int (nI m), .int (nI la), .long b, .retAddr 0, .int (nI k), .int (nI (pivN f k m)), .int (nI (k + 1 + (m - (k + 1)))), e9, e10], [.int ((nI (10 * k)) + (nI k)), .ref 41], MW A (upB B 41 (elmN k m b (putN f k m))) F sw, 0, 0)) 2 rfl ?_
            rw [nI_add]
            refine wp_lald rfl rfl (by omega) (by decide) ?_
            refine wp_eq (f' := (404, [.ref 28, .int (nI s), .int (nI m), .int (nI la), .long b, .retAddr 0, .int (nI k), .int (nI (pivN f k m)), .int (nI (k + 1 + (m - (k + 1)))), e9, e10], [.long ((elmN k m b (putN f k m)) ((10 * k) + k))], MW A (upB B 41 (elmN k m b (putN f k m))) F sw, 0, 0)) rfl ?_
            refine wp_go (f' := (409, [.ref 28, .int (nI s), .int (nI m), .int (nI la), .long ((elmN k m b (putN f k m)) ((10 * k) + k)), .retAddr 0, .int ((nI k) + 1), .int (nI (pivN f k m)), .int (nI (k + 1 + (m - (k + 1)))), e9, e10], [], MW A (upB B 41 (elmN k m b (putN f k m))) F sw, 0, 0)) 2 rfl ?_
            rw [nI_1]
            refine wp_go (f' := (157, [.ref 28, .int (nI s), .int (nI m), .int (nI la), .long ((elmN k m b (putN f k m)) ((10 * k) + k)), .retAddr 0, .int (nI (k + 1)), .int (nI (pivN f k m)), .int (nI (k + 1 + (m - (k + 1)))), e9, e10], [], MW A (upB B 41 (elmN k m b (putN f k m))) F sw, 0, 0)) 1 rfl ?_
            exact ih (k + 1) (elmN k m b (putN f k m)) ((elmN k m b (putN f k m)) (10 * k + k)) (by omega) (by rw [hEk]; exact hpiv) _ _ _ _
        refine wp_go (f' := ((if ¬ (nI (pivN f k m)) = (nI m) then 205 else 203), [.ref 28, .int (nI s), .int (nI m), .int (nI la), .long b, .retAddr 0, .int (nI k), .int (nI (pivN f k m)), e8, e9, e10], [], MW A (upB B 41 f) F sw, 0, 0)) 3 rfl ?_
        refine wp_ite (fun _ => ?_) (fun h9 => absurd (fun h8 => hpm ((nI_eq (a := (pivN f k m)) (b := m) (by omega) (by omega)).mp h8)) h9)
        refine wp_go (f' := (208, [.ref 28, .int (nI s), .int (nI m), .int (nI la), .long b, .retAddr 0, .int (nI k), .int (nI (pivN f k m)), .int (nI 0), e9, e10], [], MW A (upB B 41 f) F sw, 0, 0)) 2 rfl ?_
        by_cases hpk : (pivN f k m) = k
        · have hPT : (putN f k m) = f := by unfold putN; rw [if_pos hpk]
          refine wp_go (f' := ((if (nI m) ≤ (nI 0) then 284 else 214), [.ref 28, .int (nI s), .int (nI m), .int (nI la), .long b, .retAddr 0, .int (nI k), .int (nI (pivN f k m)), .int (nI 0), e9, e10], [], MW A (upB B 41 f) F sw, 0, 0)) 3 rfl ?_
          refine wp_ite (fun h9 => absurd h9 (nI_ge (a := 0) (b := m) (by omega) (by omega))) (fun _ => ?_)
          refine wp_go (f' := ((if (nI (pivN f k m)) = (nI k) then 284 else 221), [.ref 28, .int (nI s), .int (nI m), .int (nI la), .long b, .retAddr 0, .int (nI k), .int (nI (pivN f k m)), .int (nI 0), e9, e10], [], MW A (upB B 41 f) F sw, 0, 0)) 3 rfl ?_
          refine wp_ite (fun _ => ?_) (fun h9 => absurd (congrArg nI hpk) h9)
          have h9 := helm (.int (nI 0)) e9 e10
          refine wp_eq ?_ h9
          rw [hPT]
        · have hPT : (putN f k m) = swpN f k (pivN f k m) m := by unfold putN; rw [if_neg hpk]
          refine for_ind (P := fun (l : Nat) (u : Nat → Int64) => ∀ e9 e10 : Value, mv_Wp xs Ls 2 6 false (some .long) mv_c125 (208, [.ref 28, .int (nI s), .int (nI m), .int (nI la), .long b, .retAddr 0, .int (nI k), .int (nI (pivN f k m)), .int (nI l), e9, e10], [], MW A (upB B 41 u) F sw, 0, 0) (some (.long (treeE m j (k + 1) (elmN k m b (putN f k m)) ((elmN k m b (putN f k m)) (10 * k + k))).1), MW A (upB B 41 (treeE m j (k + 1) (elmN k m b (putN f k m)) ((elmN k m b (putN f k m)) (10 * k + k))).2) F sw, 0, 0)) (f := fun j g => vp_updL (vp_updL g (10 * (pivN f k m) + j) (-(g (10 * k + j)))) (10 * k + j) (g (10 * (pivN f k m) + j))) (n := m) ?_ m f (Nat.le_refl _) ?_ _ _
          · intro l u hl ih2 e9 e10
            refine wp_go (f' := ((if (nI m) ≤ (nI l) then 284 else 214), [.ref 28, .int (nI s), .int (nI m), .int (nI la), .long b, .retAddr 0, .int (nI k), .int (nI (pivN f k m)), .int (nI l), e9, e10], [], MW A (upB B 41 u) F sw, 0, 0)) 3 rfl ?_
            refine wp_ite (fun h9 => absurd h9 (nI_ge hl (by omega))) (fun _ => ?_)
            refine wp_go (f' := ((if (nI (pivN f k m)) = (nI k) then 284 else 221), [.ref 28, .int (nI s), .int (nI m), .int (nI la), .long b, .retAddr 0, .int (nI k), .int (nI (pivN f k m)), .int (nI l), e9, e10], [], MW A (upB B 41 u) F sw, 0, 0)) 3 rfl ?_
            refine wp_ite (fun h9 => absurd h9 (fun h8 => hpk ((nI_eq (a := (pivN f k m)) (b := k) (by omega) (by omega)).mp h8))) (fun _ => ?_)
            refine wp_go (f' := (230, [.ref 28, .int (nI s), .int (nI m), .int (nI la), .long b, .retAddr 0, .int (nI k), .int (nI (pivN f k m)), .int (nI l), e9, e10], [.int ((nI 10) * (nI (pivN f k m))), .ref 41], MW A (upB B 41 u) F sw, 0, 0)) 5 rfl ?_
            rw [nI_mul]
            refine wp_go (f' := (233, [.ref 28, .int (nI s), .int (nI m), .int (nI la), .long b, .retAddr 0, .int (nI k), .int (nI (pivN f k m)), .int (nI l), e9, e10], [.int ((nI (10 * (pivN f k m))) + (nI l)), .ref 41], MW A (upB B 41 u) F sw, 0, 0)) 2 rfl ?_
            rw [nI_add]
            refine wp_lald rfl rfl (by omega) (by decide) ?_
            refine wp_eq (f' := (234, [.ref 28, .int (nI s), .int (nI m), .int (nI la), .long b, .retAddr 0, .int (nI k), .int (nI (pivN f k m)), .int (nI l), e9, e10], [.long (u ((10 * (pivN f k m)) + l))], MW A (upB B 41 u) F sw, 0, 0)) rfl ?_
            refine wp_go (f' := (245, [.ref 28, .int (nI s), .int (nI m), .int (nI la), .long b, .retAddr 0, .int (nI k), .int (nI (pivN f k m)), .int (nI l), .long (u ((10 * (pivN f k m)) + l)), .retAddr 0], [.int ((nI 10) * (nI (pivN f k m))), .ref 41], MW A (upB B 41 u) F sw, 0, 0)) 6 rfl ?_
            rw [nI_mul]
            refine wp_go (f' := (248, [.ref 28, .int (nI s), .int (nI m), .int (nI la), .long b, .retAddr 0, .int (nI k), .int (nI (pivN f k m)), .int (nI l), .long (u ((10 * (pivN f k m)) + l)), .retAddr 0], [.int ((nI (10 * (pivN f k m))) + (nI l)), .ref 41], MW A (upB B 41 u) F sw, 0, 0)) 2 rfl ?_
            rw [nI_add]
            refine wp_go (f' := (257, [.ref 28, .int (nI s), .int (nI m), .int (nI la), .long b, .retAddr 0, .int (nI k), .int (nI (pivN f k m)), .int (nI l), .long (u ((10 * (pivN f k m)) + l)), .retAddr 0], [.int ((nI 10) * (nI k)), .ref 41, .int (nI ((10 * (pivN f k m)) + l)), .ref 41], MW A (upB B 41 u) F sw, 0, 0)) 5 rfl ?_
            rw [nI_mul]
            refine wp_go (f' := (260, [.ref 28, .int (nI s), .int (nI m), .int (nI la), .long b, .retAddr 0, .int (nI k), .int (nI (pivN f k m)), .int (nI l), .long (u ((10 * (pivN f k m)) + l)), .retAddr 0], [.int ((nI (10 * k)) + (nI l)), .ref 41, .int (nI ((10 * (pivN f k m)) + l)), .ref 41], MW A (upB B 41 u) F sw, 0, 0)) 2 rfl ?_
            rw [nI_add]
            refine wp_lald rfl rfl (by omega) (by decide) ?_
            refine wp_eq (f' := (261, [.ref 28, .int (nI s), .int (nI m), .int (nI la), .long b, .retAddr 0, .int (nI k), .int (nI (pivN f k m)), .int (nI l), .long (u ((10 * (pivN f k m)) + l)), .retAddr 0], [.long (u ((10 * k) + l)), .int (nI ((10 * (pivN f k m)) + l)), .ref 41], MW A (upB B 41 u) F sw, 0, 0)) rfl ?_
            refine wp_go (f' := (262, [.ref 28, .int (nI s), .int (nI m), .int (nI la), .long b, .retAddr 0, .int (nI k), .int (nI (pivN f k m)), .int (nI l), .long (u ((10 * (pivN f k m)) + l)), .retAddr 0], [.long (-(u ((10 * k) + l))), .int (nI ((10 * (pivN f k m)) + l)), .ref 41], MW A (upB B 41 u) F sw, 0, 0)) 1 rfl ?_
            refine wp_last rfl rfl (by omega) (by decide) ?_
            refine wp_eq (f' := (263, [.ref 28, .int (nI s), .int (nI m), .int (nI la), .long b, .retAddr 0, .int (nI k), .int (nI (pivN f k m)), .int (nI l), .long (u ((10 * (pivN f k m)) + l)), .retAddr 0], [], MW A (upB B 41 (vp_updL u ((10 * (pivN f k m)) + l) (-(u ((10 * k) + l))))) F sw, 0, 0)) rfl ?_
            refine wp_go (f' := (272, [.ref 28, .int (nI s), .int (nI m), .int (nI la), .long b, .retAddr 0, .int (nI k), .int (nI (pivN f k m)), .int (nI l), .long (u ((10 * (pivN f k m)) + l)), .retAddr 0], [.int ((nI 10) * (nI k)), .ref 41], MW A (upB B 41 (vp_updL u ((10 * (pivN f k m)) + l) (-(u ((10 * k) + l))))) F sw, 0, 0)) 5 rfl ?_
            rw [nI_mul]
            refine wp_go (f' := (275, [.ref 28, .int (nI s), .int (nI m), .int (nI la), .long b, .retAddr 0, .int (nI k), .int (nI (pivN f k m)), .int (nI l), .long (u ((10 * (pivN f k m)) + l)), .retAddr 0], [.int ((nI (10 * k)) + (nI l)), .ref 41], MW A (upB B 41 (vp_updL u ((10 * (pivN f k m)) + l) (-(u ((10 * k) + l))))) F sw, 0, 0)) 2 rfl ?_
            rw [nI_add]
            refine wp_go (f' := (277, [.ref 28, .int (nI s), .int (nI m), .int (nI la), .long b, .retAddr 0, .int (nI k), .int (nI (pivN f k m)), .int (nI l), .long (u ((10 * (pivN f k m)) + l)), .retAddr 0], [.long (u ((10 * (pivN f k m)) + l)), .int (nI ((10 * k) + l)), .ref 41], MW A (upB B 41 (vp_updL u ((10 * (pivN f k m)) + l) (-(u ((10 * k) + l))))) F sw, 0, 0)) 1 rfl ?_
            refine wp_last rfl rfl (by omega) (by decide) ?_
            refine wp_eq (f' := (278, [.ref 28, .int (nI s), .int (nI m), .int (nI la), .long b, .retAddr 0, .int (nI k), .int (nI (pivN f k m)), .int (nI l), .long (u ((10 * (pivN f k m)) + l)), .retAddr 0], [], MW A (upB B 41 (vp_updL (vp_updL u ((10 * (pivN f k m)) + l) (-(u ((10 * k) + l)))) ((10 * k) + l) (u ((10 * (pivN f k m)) + l)))) F sw, 0, 0)) rfl ?_
            refine wp_go (f' := (281, [.ref 28, .int (nI s), .int (nI m), .int (nI la), .long b, .retAddr 0, .int (nI k), .int (nI (pivN f k m)), .int ((nI l) + 1), .long (u ((10 * (pivN f k m)) + l)), .retAddr 0], [], MW A (upB B 41 (vp_updL (vp_updL u ((10 * (pivN f k m)) + l) (-(u ((10 * k) + l)))) ((10 * k) + l) (u ((10 * (pivN f k m)) + l)))) F sw, 0, 0)) 1 rfl ?_
            rw [nI_1]
            refine wp_go (f' := (208, [.ref 28, .int (nI s), .int (nI m), .int (nI la), .long b, .retAddr 0, .int (nI k), .int (nI (pivN f k m)), .int (nI (l + 1)), .long (u ((10 * (pivN f k m)) + l)), .retAddr 0], [], MW A (upB B 41 (vp_updL (vp_updL u ((10 * (pivN f k m)) + l) (-(u ((10 * k) + l)))) ((10 * k) + l) (u ((10 * (pivN f k m)) + l)))) F sw, 0, 0)) 1 rfl ?_
            exact ih2 (.long (u ((10 * (pivN f k m)) + l))) (.retAddr 0)
          · intro e9 e10
            refine wp_go (f' := ((if (nI m) ≤ (nI m) then 284 else 214), [.ref 28, .int (nI s), .int (nI m), .int (nI la), .long b, .retAddr 0, .int (nI k), .int (nI (pivN f k m)), .int (nI m), e9, e10], [], MW A (upB B 41 (swpN f k (pivN f k m) m)) F sw, 0, 0)) 3 rfl ?_
            refine wp_ite (fun _ => ?_) (fun h9 => absurd (nI_le (Nat.le_refl _) (by omega)) h9)
            have h9 := helm (.int (nI m)) e9 e10
            refine wp_eq ?_ h9
            rw [hPT]
    refine wh_ind (P := fun (r : Nat) => k ≤ r → r ≤ (pivN f k m) → mv_Wp xs Ls 2 6 false (some .long) mv_c125 (167, [.ref 28, .int (nI s), .int (nI m), .int (nI la), .long b, .retAddr 0, .int (nI k), .int (nI r), e8, e9, e10], [], MW A (upB B 41 f) F sw, 0, 0) (some (.long (treeE m (j + 1) k f b).1), MW A (upB B 41 (treeE m (j + 1) k f b).2) F sw, 0, 0)) (fun r => m - r) ?_ k (Nat.le_refl _) v2
    intro r ih2 hkr hr
    rcases Nat.lt_or_ge r m with hrm | hrm
    · by_cases hz : f (10 * r + k) = 0
      · have hne : r ≠ (pivN f k m) := fun e => v3 (by omega) (e ▸ hz)
        refine wp_go (f' := ((if (nI m) ≤ (nI r) then 197 else 173), [.ref 28, .int (nI s), .int (nI m), .int (nI la), .long b, .retAddr 0, .int (nI k), .int (nI r), e8, e9, e10], [], MW A (upB B 41 f) F sw, 0, 0)) 3 rfl ?_
        refine wp_ite (fun h9 => absurd h9 (nI_ge hrm (by omega))) (fun _ => ?_)
        refine wp_go (f' := (182, [.ref 28, .int (nI s), .int (nI m), .int (nI la), .long b, .retAddr 0, .int (nI k), .int (nI r), e8, e9, e10], [.int ((nI 10) * (nI r)), .ref 41], MW A (upB B 41 f) F sw, 0, 0)) 5 rfl ?_
        rw [nI_mul]
        refine wp_go (f' := (185, [.ref 28, .int (nI s), .int (nI m), .int (nI la), .long b, .retAddr 0, .int (nI k), .int (nI r), e8, e9, e10], [.int ((nI (10 * r)) + (nI k)), .ref 41], MW A (upB B 41 f) F sw, 0, 0)) 2 rfl ?_
        rw [nI_add]
        refine wp_lald rfl rfl (by omega) (by decide) ?_
        refine wp_eq (f' := (186, [.ref 28, .int (nI s), .int (nI m), .int (nI la), .long b, .retAddr 0, .int (nI k), .int (nI r), e8, e9, e10], [.long (f ((10 * r) + k))], MW A (upB B 41 f) F sw, 0, 0)) rfl ?_
        refine wp_go (f' := ((if ¬ (lg_cmp (f ((10 * r) + k)) 0) = 0 then 197 else 191), [.ref 28, .int (nI s), .int (nI m), .int (nI la), .long b, .retAddr 0, .int (nI k), .int (nI r), e8, e9, e10], [], MW A (upB B 41 f) F sw, 0, 0)) 3 rfl ?_
        refine wp_ite (fun h9 => absurd h9 (fun h8 => h8 ((lg_cmp_eq _ _).mpr hz))) (fun _ => ?_)
        refine wp_go (f' := (194, [.ref 28, .int (nI s), .int (nI m), .int (nI la), .long b, .retAddr 0, .int (nI k), .int ((nI r) + 1), e8, e9, e10], [], MW A (upB B 41 f) F sw, 0, 0)) 1 rfl ?_
        rw [nI_1]
        refine wp_go (f' := (167, [.ref 28, .int (nI s), .int (nI m), .int (nI la), .long b, .retAddr 0, .int (nI k), .int (nI (r + 1)), e8, e9, e10], [], MW A (upB B 41 f) F sw, 0, 0)) 1 rfl ?_
        exact ih2 (r + 1) (by omega) (by omega) (by omega)
      · have he : r = (pivN f k m) := by
          rcases Nat.lt_or_ge r (pivN f k m) with g | g
          · exact absurd (v4 r hkr g) hz
          · omega
        refine wp_go (f' := ((if (nI m) ≤ (nI r) then 197 else 173), [.ref 28, .int (nI s), .int (nI m), .int (nI la), .long b, .retAddr 0, .int (nI k), .int (nI r), e8, e9, e10], [], MW A (upB B 41 f) F sw, 0, 0)) 3 rfl ?_
        refine wp_ite (fun h9 => absurd h9 (nI_ge hrm (by omega))) (fun _ => ?_)
        refine wp_go (f' := (182, [.ref 28, .int (nI s), .int (nI m), .int (nI la), .long b, .retAddr 0, .int (nI k), .int (nI r), e8, e9, e10], [.int ((nI 10) * (nI r)), .ref 41], MW A (upB B 41 f) F sw, 0, 0)) 5 rfl ?_
        rw [nI_mul]
        refine wp_go (f' := (185, [.ref 28, .int (nI s), .int (nI m), .int (nI la), .long b, .retAddr 0, .int (nI k), .int (nI r), e8, e9, e10], [.int ((nI (10 * r)) + (nI k)), .ref 41], MW A (upB B 41 f) F sw, 0, 0)) 2 rfl ?_
        rw [nI_add]
        refine wp_lald rfl rfl (by omega) (by decide) ?_
        refine wp_eq (f' := (186, [.ref 28, .int (nI s), .int (nI m), .int (nI la), .long b, .retAddr 0, .int (nI k), .int (nI r), e8, e9, e10], [.long (f ((10 * r) + k))], MW A (upB B 41 f) F sw, 0, 0)) rfl ?_
        refine wp_go (f' := ((if ¬ (lg_cmp (f ((10 * r) + k)) 0) = 0 then 197 else 191), [.ref 28, .int (nI s), .int (nI m), .int (nI la), .long b, .retAddr 0, .int (nI k), .int (nI r), e8, e9, e10], [], MW A (upB B 41 f) F sw, 0, 0)) 3 rfl ?_
        refine wp_ite (fun _ => ?_) (fun h9 => absurd (fun h8 => hz ((lg_cmp_eq _ _).mp h8)) h9)
        rw [he]
        exact hdone
    · have he : r = (pivN f k m) := by omega
      refine wp_go (f' := ((if (nI m) ≤ (nI r) then 197 else 173), [.ref 28, .int (nI s), .int (nI m), .int (nI la), .long b, .retAddr 0, .int (nI k), .int (nI r), e8, e9, e10], [], MW A (upB B 41 f) F sw, 0, 0)) 3 rfl ?_
      refine wp_ite (fun _ => ?_) (fun h9 => absurd (nI_le hrm (by omega)) h9)
      rw [he]
      exact hdone
theorem ev_trees (hM : MI A F n nb) {s : Nat} (hs : s < 1024) : mv_Ev xs Ls 3 125 [.ref 28, .int (nI s)] (MW A B F sw) (some (.long (treesN n nb s (B 41)).1), MW A (upB B 41 (treesN n nb s (B 41)).2) F sw, 0, 0) := by
  refine ev_of_wp rfl rfl rfl ?_
  have hn := hM.1
  have hp := pow10 hn
  have hp1 : 1 ≤ 2 ^ n := Nat.one_le_two_pow
  have hal := all_lt hn
  have hla := lastN_lt (s := s) hn
  have hnl : ∀ v, v < lastN n s → v < 10 := fun v hv => by omega
  refine wp_go (f' := (7, [.ref 28, .int (nI s), .int (nI 0), .int (nI 0), .int (nI 0), .retAddr 0, .retAddr 0, .retAddr 0, .retAddr 0, .retAddr 0, .retAddr 0], [], MW A B F sw, 0, 0)) 6 rfl ?_
  refine wp_eq (f' := (7, [.ref 28, .int (nI s), .int (nI 0), .int (nI 0), .int (nI 0), .retAddr 0, .retAddr 0, .retAddr 0, .retAddr 0, .retAddr 0, .retAddr 0], [], MW A (upB B 41 (B 41)) F sw, 0, 0)) rfl ?_
  refine for_ind (P := fun (k : Nat) (l : Nat) => (l ≤ 9) → mv_Wp xs Ls 2 6 false (some .long) mv_c125 (7, [.ref 28, .int (nI s), .int (nI 0), .int (nI l), .int (nI k), .retAddr 0, .retAddr 0, .retAddr 0, .retAddr 0, .retAddr 0, .retAddr 0], [], MW A (upB B 41 (B 41)) F sw, 0, 0) (some (.long (treesN n nb s (B 41)).1), MW A (upB B 41 (treesN n nb s (B 41)).2) F sw, 0, 0)) (f := fun v l => if s.testBit v then v else l) (n := n) ?_ n 0 (Nat.le_refl _) ?_ (by omega)
  · intro k l hk ih hinv
    refine wp_go (f' := (13, [.ref 28, .int (nI s), .int (nI 0), .int (nI l), .int (nI k), .retAddr 0, .retAddr 0, .retAddr 0, .retAddr 0, .retAddr 0, .retAddr 0], [.int (F 6), .int (nI k)], MW A (upB B 41 (B 41)) F sw, 0, 0)) 3 rfl ?_
    rw [hM.2.1]
    refine wp_go (f' := ((if (nI n) ≤ (nI k) then 39 else 16), [.ref 28, .int (nI s), .int (nI 0), .int (nI l), .int (nI k), .retAddr 0, .retAddr 0, .retAddr 0, .retAddr 0, .retAddr 0, .retAddr 0], [], MW A (upB B 41 (B 41)) F sw, 0, 0)) 1 rfl ?_
    refine wp_ite (fun h9 => absurd h9 (nI_ge hk (by omega))) (fun _ => ?_)
    refine wp_go (f' := (22, [.ref 28, .int (nI s), .int (nI 0), .int (nI l), .int (nI k), .retAddr 0, .retAddr 0, .retAddr 0, .retAddr 0, .retAddr 0, .retAddr 0], [.int (((nI s) >>> ((nI k) &&& 31)) &&& (nI 1))], MW A (upB B 41 (B 41)) F sw, 0, 0)) 5 rfl ?_
    rw [bx_bit (by omega) (by omega)]
    refine wp_go (f' := ((if ¬ (bI (s.testBit k)) = (nI 1) then 31 else 26), [.ref 28, .int (nI s), .int (nI 0), .int (nI l), .int (nI k), .retAddr 0, .retAddr 0, .retAddr 0, .retAddr 0, .retAddr 0, .retAddr 0], [], MW A (upB B 41 (B 41)) F sw, 0, 0)) 2 rfl ?_
    refine wp_ite (fun h1 => ?_) (fun h1 => ?_)
    · have h1 := bI_n1 h1
      refine wp_go (f' := (36, [.ref 28, .int (nI s), .int (nI 0), .int (nI l), .int ((nI k) + 1), .retAddr 0, .retAddr 0, .retAddr 0, .retAddr 0, .retAddr 0, .retAddr 0], [], MW A (upB B 41 (B 41)) F sw, 0, 0)) 3 rfl ?_
      rw [nI_1]
      refine wp_go (f' := (7, [.ref 28, .int (nI s), .int (nI 0), .int (nI l), .int (nI (k + 1)), .retAddr 0, .retAddr 0, .retAddr 0, .retAddr 0, .retAddr 0, .retAddr 0], [], MW A (upB B 41 (B 41)) F sw, 0, 0)) 1 rfl ?_
      have e1 : (if s.testBit k = true then k else l) = l := by simp [h1]
      rw [e1] at ih
      exact ih (by omega)
    · have h1 := Classical.not_not.mp h1; have h1 := bI_1.mp h1
      refine wp_go (f' := (36, [.ref 28, .int (nI s), .int (nI 0), .int (nI k), .int ((nI k) + 1), .retAddr 0, .retAddr 0, .retAddr 0, .retAddr 0, .retAddr 0, .retAddr 0], [], MW A (upB B 41 (B 41)) F sw, 0, 0)) 4 rfl ?_
      rw [nI_1]
      refine wp_go (f' := (7, [.ref 28, .int (nI s), .int (nI 0), .int (nI k), .int (nI (k + 1)), .retAddr 0, .retAddr 0, .retAddr 0, .retAddr 0, .retAddr 0, .retAddr 0], [], MW A (upB B 41 (B 41)) F sw, 0, 0)) 1 rfl ?_
      have e1 : (if s.testBit k = true then k else l) = k := by simp [h1]
      rw [e1] at ih
      exact ih (by omega)
  · intro hinv
    refine wp_go (f' := (13, [.ref 28, .int (nI s), .int (nI 0), .int (nI (lastN n s)), .int (nI n), .retAddr 0, .retAddr 0, .retAddr 0, .retAddr 0, .retAddr 0, .retAddr 0], [.int (F 6), .int (nI n)], MW A (upB B 41 (B 41)) F sw, 0, 0)) 3 rfl ?_
    rw [hM.2.1]
    refine wp_go (f' := ((if (nI n) ≤ (nI n) then 39 else 16), [.ref 28, .int (nI s), .int (nI 0), .int (nI (lastN n s)), .int (nI n), .retAddr 0, .retAddr 0, .retAddr 0, .retAddr 0, .retAddr 0, .retAddr 0], [], MW A (upB B 41 (B 41)) F sw, 0, 0)) 1 rfl ?_
    refine wp_ite (fun _ => ?_) (fun h9 => absurd (nI_le (Nat.le_refl _) (by omega)) h9)
    refine wp_go (f' := (42, [.ref 28, .int (nI s), .int (nI 0), .int (nI (lastN n s)), .int (nI 0), .retAddr 0, .retAddr 0, .retAddr 0, .retAddr 0, .retAddr 0, .retAddr 0], [], MW A (upB B 41 (B 41)) F sw, 0, 0)) 2 rfl ?_
    refine for_ind (P := fun (v : Nat) (q : (Nat → Int64) × Nat) => q.2 ≤ v → ∀ e5 e6 : Value, mv_Wp xs Ls 2 6 false (some .long) mv_c125 (42, [.ref 28, .int (nI s), .int (nI q.2), .int (nI (lastN n s)), .int (nI v), e5, e6, .retAddr 0, .retAddr 0, .retAddr 0, .retAddr 0], [], MW A (upB B 41 q.1) F sw, 0, 0) (some (.long (treesN n nb s (B 41)).1), MW A (upB B 41 (treesN n nb s (B 41)).2) F sw, 0, 0)) (f := sqR nb s (lastN n s)) (n := (lastN n s)) ?_ (lastN n s) (B 41, 0) (Nat.le_refl _) ?_ (Nat.le_refl _) _ _
    · intro v q hv ih hq e5 e6
      have hvn := hnl v hv
      cases hsb : s.testBit v with
      | false =>
        have e1 : sqR nb s (lastN n s) v q = q := by unfold sqR; rw [if_neg (by rw [hsb]; decide)]
        rw [e1] at ih
        refine wp_go (f' := ((if (nI (lastN n s)) ≤ (nI v) then 151 else 48), [.ref 28, .int (nI s), .int (nI q.2), .int (nI (lastN n s)), .int (nI v), e5, e6, .retAddr 0, .retAddr 0, .retAddr 0, .retAddr 0], [], MW A (upB B 41 q.1) F sw, 0, 0)) 3 rfl ?_
        refine wp_ite (fun h9 => absurd h9 (nI_ge hv (by omega))) (fun _ => ?_)
        refine wp_go (f' := (54, [.ref 28, .int (nI s), .int (nI q.2), .int (nI (lastN n s)), .int (nI v), e5, e6, .retAddr 0, .retAddr 0, .retAddr 0, .retAddr 0], [.int (((nI s) >>> ((nI v) &&& 31)) &&& (nI 1))], MW A (upB B 41 q.1) F sw, 0, 0)) 5 rfl ?_
        rw [bx_bit (by omega) (by omega)]
        refine wp_go (f' := ((if ¬ (bI (s.testBit v)) = (nI 1) then 145 else 58), [.ref 28, .int (nI s), .int (nI q.2), .int (nI (lastN n s)), .int (nI v), e5, e6, .retAddr 0, .retAddr 0, .retAddr 0, .retAddr 0], [], MW A (upB B 41 q.1) F sw, 0, 0)) 2 rfl ?_
        refine wp_ite (fun _ => ?_) (fun h9 => absurd (by rw [hsb]; decide) h9)
        refine wp_go (f' := (148, [.ref 28, .int (nI s), .int (nI q.2), .int (nI (lastN n s)), .int ((nI v) + 1), e5, e6, .retAddr 0, .retAddr 0, .retAddr 0, .retAddr 0], [], MW A (upB B 41 q.1) F sw, 0, 0)) 1 rfl ?_
        rw [nI_1]
        refine wp_go (f' := (42, [.ref 28, .int (nI s), .int (nI q.2), .int (nI (lastN n s)), .int (nI (v + 1)), e5, e6, .retAddr 0, .retAddr 0, .retAddr 0, .retAddr 0], [], MW A (upB B 41 q.1) F sw, 0, 0)) 1 rfl ?_
        exact ih (by omega) _ _
      | true =>
        have e1 : sqR nb s (lastN n s) v q = ((forN (sqW nb s v q.2) (lastN n s) (q.1, 0)).1, q.2 + 1) := by unfold sqR; rw [if_pos hsb]
        rw [e1] at ih
        refine wp_go (f' := ((if (nI (lastN n s)) ≤ (nI v) then 151 else 48), [.ref 28, .int (nI s), .int (nI q.2), .int (nI (lastN n s)), .int (nI v), e5, e6, .retAddr 0, .retAddr 0, .retAddr 0, .retAddr 0], [], MW A (upB B 41 q.1) F sw, 0, 0)) 3 rfl ?_
        refine wp_ite (fun h9 => absurd h9 (nI_ge hv (by omega))) (fun _ => ?_)
        refine wp_go (f' := (54, [.ref 28, .int (nI s), .int (nI q.2), .int (nI (lastN n s)), .int (nI v), e5, e6, .retAddr 0, .retAddr 0, .retAddr 0, .retAddr 0], [.int (((nI s) >>> ((nI v) &&& 31)) &&& (nI 1))], MW A (upB B 41 q.1) F sw, 0, 0)) 5 rfl ?_
        rw [bx_bit (by omega) (by omega)]
        refine wp_go (f' := ((if ¬ (bI (s.testBit v)) = (nI 1) then 145 else 58), [.ref 28, .int (nI s), .int (nI q.2), .int (nI (lastN n s)), .int (nI v), e5, e6, .retAddr 0, .retAddr 0, .retAddr 0, .retAddr 0], [], MW A (upB B 41 q.1) F sw, 0, 0)) 2 rfl ?_
        refine wp_ite (fun h9 => absurd h9 (fun h8 => h8 (bI_t hsb))) (fun _ => ?_)
        refine wp_go (f' := (64, [.ref 28, .int (nI s), .int (nI q.2), .int (nI (lastN n s)), .int (nI v), .int (nI 0), .int (nI 0), .retAddr 0, .retAddr 0, .retAddr 0, .retAddr 0], [], MW A (upB B 41 q.1) F sw, 0, 0)) 4 rfl ?_
        refine for_ind (P := fun (w : Nat) (u : (Nat → Int64) × Nat) => u.2 ≤ w → mv_Wp xs Ls 2 6 false (some .long) mv_c125 (64, [.ref 28, .int (nI s), .int (nI q.2), .int (nI (lastN n s)), .int (nI v), .int (nI u.2), .int (nI w), .retAddr 0, .retAddr 0, .retAddr 0, .retAddr 0], [], MW A (upB B 41 u.1) F sw, 0, 0) (some (.long (treesN n nb s (B 41)).1), MW A (upB B 41 (treesN n nb s (B 41)).2) F sw, 0, 0)) (f := sqW nb s v q.2) (n := (lastN n s)) ?_ (lastN n s) (q.1, 0) (Nat.le_refl _) ?_ (Nat.le_refl _)
        · intro w u hw ih2 hu
          have hwn := hnl w hw
          have hnbs : nb v &&& s < 1024 := and_lt_r hs
          refine wp_go (f' := ((if (nI (lastN n s)) ≤ (nI w) then 142 else 70), [.ref 28, .int (nI s), .int (nI q.2), .int (nI (lastN n s)), .int (nI v), .int (nI u.2), .int (nI w), .retAddr 0, .retAddr 0, .retAddr 0, .retAddr 0], [], MW A (upB B 41 u.1) F sw, 0, 0)) 3 rfl ?_
          refine wp_ite (fun h9 => absurd h9 (nI_ge hw (by omega))) (fun _ => ?_)
          refine wp_go (f' := (76, [.ref 28, .int (nI s), .int (nI q.2), .int (nI (lastN n s)), .int (nI v), .int (nI u.2), .int (nI w), .retAddr 0, .retAddr 0, .retAddr 0, .retAddr 0], [.int (((nI s) >>> ((nI w) &&& 31)) &&& (nI 1))], MW A (upB B 41 u.1) F sw, 0, 0)) 5 rfl ?_
          rw [bx_bit (by omega) (by omega)]
          refine wp_go (f' := ((if ¬ (bI (s.testBit w)) = (nI 1) then 136 else 80), [.ref 28, .int (nI s), .int (nI q.2), .int (nI (lastN n s)), .int (nI v), .int (nI u.2), .int (nI w), .retAddr 0, .retAddr 0, .retAddr 0, .retAddr 0], [], MW A (upB B 41 u.1) F sw, 0, 0)) 2 rfl ?_
          refine wp_ite (fun h1 => ?_) (fun h1 => ?_)
          · have h1 := bI_n1 h1
            refine wp_go (f' := (139, [.ref 28, .int (nI s), .int (nI q.2), .int (nI (lastN n s)), .int (nI v), .int (nI u.2), .int ((nI w) + 1), .retAddr 0, .retAddr 0, .retAddr 0, .retAddr 0], [], MW A (upB B 41 u.1) F sw, 0, 0)) 1 rfl ?_
            rw [nI_1]
            refine wp_go (f' := (64, [.ref 28, .int (nI s), .int (nI q.2), .int (nI (lastN n s)), .int (nI v), .int (nI u.2), .int (nI (w + 1)), .retAddr 0, .retAddr 0, .retAddr 0, .retAddr 0], [], MW A (upB B 41 u.1) F sw, 0, 0)) 1 rfl ?_
            have e2 : sqW nb s v q.2 w u = u := by unfold sqW; rw [if_neg (by simp [h1])]
            rw [e2] at ih2
            exact ih2 (by omega)
          · have h1 := Classical.not_not.mp h1; have h1 := bI_1.mp h1
            refine wp_go (f' := (88, [.ref 28, .int (nI s), .int (nI q.2), .int (nI (lastN n s)), .int (nI v), .int (nI u.2), .int (nI w), .retAddr 0, .retAddr 0, .retAddr 0, .retAddr 0], [.int ((nI 10) * (nI q.2)), .ref 41], MW A (upB B 41 u.1) F sw, 0, 0)) 5 rfl ?_
            rw [nI_mul]
            refine wp_go (f' := (91, [.ref 28, .int (nI s), .int (nI q.2), .int (nI (lastN n s)), .int (nI v), .int (nI u.2), .int (nI w), .retAddr 0, .retAddr 0, .retAddr 0, .retAddr 0], [.int ((nI (10 * q.2)) + (nI u.2)), .ref 41], MW A (upB B 41 u.1) F sw, 0, 0)) 2 rfl ?_
            rw [nI_add]
            refine wp_go (f' := ((if ¬ (nI v) = (nI w) then 114 else 98), [.ref 28, .int (nI s), .int (nI q.2), .int (nI (lastN n s)), .int (nI v), .int (nI u.2), .int (nI w), .retAddr 0, .retAddr 0, .retAddr 0, .retAddr 0], [.int (nI ((10 * q.2) + u.2)), .ref 41], MW A (upB B 41 u.1) F sw, 0, 0)) 3 rfl ?_
            refine wp_ite (fun h2 => ?_) (fun h2 => ?_)
            · have h2 : ¬ (v = w) := fun h9 => h2 ((nI_eq (a := v) (b := w) (by omega) (by omega)).mpr h9)
              refine wp_go (f' := (119, [.ref 28, .int (nI s), .int (nI q.2), .int (nI (lastN n s)), .int (nI v), .int (nI u.2), .int (nI w), .retAddr 0, .retAddr 0, .retAddr 0, .retAddr 0], [.int (nI w), .int (nI v), .ref 28, .int (nI ((10 * q.2) + u.2)), .ref 41], MW A (upB B 41 u.1) F sw, 0, 0)) 3 rfl ?_
              refine wp_call rfl rfl rfl (ev_up (ev_isEdge hM v w (by omega) (by omega)) (by decide)) ?_
              refine wp_eq (f' := (122, [.ref 28, .int (nI s), .int (nI q.2), .int (nI (lastN n s)), .int (nI v), .int (nI u.2), .int (nI w), .retAddr 0, .retAddr 0, .retAddr 0, .retAddr 0], [.int (bI ((nb v).testBit w)), .int (nI ((10 * q.2) + u.2)), .ref 41], MW A (upB B 41 u.1) F sw, 0, 0)) rfl ?_
              refine wp_go (f' := ((if (bI ((nb v).testBit w)) = 0 then 131 else 125), [.ref 28, .int (nI s), .int (nI q.2), .int (nI (lastN n s)), .int (nI v), .int (nI u.2), .int (nI w), .retAddr 0, .retAddr 0, .retAddr 0, .retAddr 0], [.int (nI ((10 * q.2) + u.2)), .ref 41], MW A (upB B 41 u.1) F sw, 0, 0)) 1 rfl ?_
              refine wp_ite (fun h3 => ?_) (fun h3 => ?_)
              · have h3 := bI_0.mp h3
                refine wp_go (f' := (132, [.ref 28, .int (nI s), .int (nI q.2), .int (nI (lastN n s)), .int (nI v), .int (nI u.2), .int (nI w), .retAddr 0, .retAddr 0, .retAddr 0, .retAddr 0], [.long 0, .int (nI ((10 * q.2) + u.2)), .ref 41], MW A (upB B 41 u.1) F sw, 0, 0)) 1 rfl ?_
                refine wp_last rfl rfl (by omega) (by decide) ?_
                refine wp_eq (f' := (133, [.ref 28, .int (nI s), .int (nI q.2), .int (nI (lastN n s)), .int (nI v), .int (nI u.2), .int (nI w), .retAddr 0, .retAddr 0, .retAddr 0, .retAddr 0], [], MW A (upB B 41 (vp_updL u.1 ((10 * q.2) + u.2) 0)) F sw, 0, 0)) rfl ?_
                refine wp_go (f' := (136, [.ref 28, .int (nI s), .int (nI q.2), .int (nI (lastN n s)), .int (nI v), .int ((nI u.2) + 1), .int (nI w), .retAddr 0, .retAddr 0, .retAddr 0, .retAddr 0], [], MW A (upB B 41 (vp_updL u.1 ((10 * q.2) + u.2) 0)) F sw, 0, 0)) 1 rfl ?_
                rw [nI_1]
                refine wp_go (f' := (139, [.ref 28, .int (nI s), .int (nI q.2), .int (nI (lastN n s)), .int (nI v), .int (nI (u.2 + 1)), .int ((nI w) + 1), .retAddr 0, .retAddr 0, .retAddr 0, .retAddr 0], [], MW A (upB B 41 (vp_updL u.1 ((10 * q.2) + u.2) 0)) F sw, 0, 0)) 1 rfl ?_
                rw [nI_1]
                refine wp_go (f' := (64, [.ref 28, .int (nI s), .int (nI q.2), .int (nI (lastN n s)), .int (nI v), .int (nI (u.2 + 1)), .int (nI (w + 1)), .retAddr 0, .retAddr 0, .retAddr 0, .retAddr 0], [], MW A (upB B 41 (vp_updL u.1 ((10 * q.2) + u.2) 0)) F sw, 0, 0)) 1 rfl ?_
                have e3 : sqV nb s v w = 0 := by unfold sqV; rw [if_neg h2, if_neg (by rw [h3]; decide)]
                have e2 : sqW nb s v q.2 w u = (vp_updL u.1 (10 * q.2 + u.2) (0), u.2 + 1) := by unfold sqW; rw [if_pos h1, e3]
                rw [e2] at ih2
                exact ih2 (by show u.2 + 1 ≤ w + 1; omega)
              · have h3 := bI_n0 h3
                refine wp_go (f' := (132, [.ref 28, .int (nI s), .int (nI q.2), .int (nI (lastN n s)), .int (nI v), .int (nI u.2), .int (nI w), .retAddr 0, .retAddr 0, .retAddr 0, .retAddr 0], [.long (-1), .int (nI ((10 * q.2) + u.2)), .ref 41], MW A (upB B 41 u.1) F sw, 0, 0)) 2 rfl ?_
                refine wp_last rfl rfl (by omega) (by decide) ?_
                refine wp_eq (f' := (133, [.ref 28, .int (nI s), .int (nI q.2), .int (nI (lastN n s)), .int (nI v), .int (nI u.2), .int (nI w), .retAddr 0, .retAddr 0, .retAddr 0, .retAddr 0], [], MW A (upB B 41 (vp_updL u.1 ((10 * q.2) + u.2) (-1))) F sw, 0, 0)) rfl ?_
                refine wp_go (f' := (136, [.ref 28, .int (nI s), .int (nI q.2), .int (nI (lastN n s)), .int (nI v), .int ((nI u.2) + 1), .int (nI w), .retAddr 0, .retAddr 0, .retAddr 0, .retAddr 0], [], MW A (upB B 41 (vp_updL u.1 ((10 * q.2) + u.2) (-1))) F sw, 0, 0)) 1 rfl ?_
                rw [nI_1]
                refine wp_go (f' := (139, [.ref 28, .int (nI s), .int (nI q.2), .int (nI (lastN n s)), .int (nI v), .int (nI (u.2 + 1)), .int ((nI w) + 1), .retAddr 0, .retAddr 0, .retAddr 0, .retAddr 0], [], MW A (upB B 41 (vp_updL u.1 ((10 * q.2) + u.2) (-1))) F sw, 0, 0)) 1 rfl ?_
                rw [nI_1]
                refine wp_go (f' := (64, [.ref 28, .int (nI s), .int (nI q.2), .int (nI (lastN n s)), .int (nI v), .int (nI (u.2 + 1)), .int (nI (w + 1)), .retAddr 0, .retAddr 0, .retAddr 0, .retAddr 0], [], MW A (upB B 41 (vp_updL u.1 ((10 * q.2) + u.2) (-1))) F sw, 0, 0)) 1 rfl ?_
                have e3 : sqV nb s v w = (-1) := by unfold sqV; rw [if_neg h2, if_pos h3]
                have e2 : sqW nb s v q.2 w u = (vp_updL u.1 (10 * q.2 + u.2) ((-1)), u.2 + 1) := by unfold sqW; rw [if_pos h1, e3]
                rw [e2] at ih2
                exact ih2 (by show u.2 + 1 ≤ w + 1; omega)
            · have h2 := Classical.not_not.mp h2; have h2 : v = w := (nI_eq (a := v) (b := w) (by omega) (by omega)).mp h2
              refine wp_go (f' := (104, [.ref 28, .int (nI s), .int (nI q.2), .int (nI (lastN n s)), .int (nI v), .int (nI u.2), .int (nI w), .retAddr 0, .retAddr 0, .retAddr 0, .retAddr 0], [.int (nI v), .ref 29, .int (nI ((10 * q.2) + u.2)), .ref 41], MW A (upB B 41 u.1) F sw, 0, 0)) 3 rfl ?_
              refine wp_iald rfl rfl (by omega) (by decide) ?_
              refine wp_eq (f' := (105, [.ref 28, .int (nI s), .int (nI q.2), .int (nI (lastN n s)), .int (nI v), .int (nI u.2), .int (nI w), .retAddr 0, .retAddr 0, .retAddr 0, .retAddr 0], [.int ((A 29) v), .int (nI ((10 * q.2) + u.2)), .ref 41], MW A (upB B 41 u.1) F sw, 0, 0)) rfl ?_
              rw [hM.2.2.1 v (by omega)]
              have hnb := hM.2.2.2 v (by omega)
              refine wp_go (f' := (107, [.ref 28, .int (nI s), .int (nI q.2), .int (nI (lastN n s)), .int (nI v), .int (nI u.2), .int (nI w), .retAddr 0, .retAddr 0, .retAddr 0, .retAddr 0], [.int ((nI (nb v)) &&& (nI s)), .int (nI ((10 * q.2) + u.2)), .ref 41], MW A (upB B 41 u.1) F sw, 0, 0)) 2 rfl ?_
              rw [bx_and]
              refine wp_call rfl rfl rfl (ev_up (ev_onesN (s := (nb v) &&& s) (by omega) _) (by decide)) ?_
              refine wp_eq (f' := (110, [.ref 28, .int (nI s), .int (nI q.2), .int (nI (lastN n s)), .int (nI v), .int (nI u.2), .int (nI w), .retAddr 0, .retAddr 0, .retAddr 0, .retAddr 0], [.int (nI (pop ((nb v) &&& s))), .int (nI ((10 * q.2) + u.2)), .ref 41], MW A (upB B 41 u.1) F sw, 0, 0)) rfl ?_
              have hpp := pop_le (s := (nb v) &&& s) (by omega)
              refine wp_go (f' := (132, [.ref 28, .int (nI s), .int (nI q.2), .int (nI (lastN n s)), .int (nI v), .int (nI u.2), .int (nI w), .retAddr 0, .retAddr 0, .retAddr 0, .retAddr 0], [.long ((nI (pop ((nb v) &&& s))).toInt64), .int (nI ((10 * q.2) + u.2)), .ref 41], MW A (upB B 41 u.1) F sw, 0, 0)) 2 rfl ?_
              refine wp_last rfl rfl (by omega) (by decide) ?_
              refine wp_eq (f' := (133, [.ref 28, .int (nI s), .int (nI q.2), .int (nI (lastN n s)), .int (nI v), .int (nI u.2), .int (nI w), .retAddr 0, .retAddr 0, .retAddr 0, .retAddr 0], [], MW A (upB B 41 (vp_updL u.1 ((10 * q.2) + u.2) ((nI (pop ((nb v) &&& s))).toInt64))) F sw, 0, 0)) rfl ?_
              refine wp_go (f' := (136, [.ref 28, .int (nI s), .int (nI q.2), .int (nI (lastN n s)), .int (nI v), .int ((nI u.2) + 1), .int (nI w), .retAddr 0, .retAddr 0, .retAddr 0, .retAddr 0], [], MW A (upB B 41 (vp_updL u.1 ((10 * q.2) + u.2) ((nI (pop ((nb v) &&& s))).toInt64))) F sw, 0, 0)) 1 rfl ?_
              rw [nI_1]
              refine wp_go (f' := (139, [.ref 28, .int (nI s), .int (nI q.2), .int (nI (lastN n s)), .int (nI v), .int (nI (u.2 + 1)), .int ((nI w) + 1), .retAddr 0, .retAddr 0, .retAddr 0, .retAddr 0], [], MW A (upB B 41 (vp_updL u.1 ((10 * q.2) + u.2) ((nI (pop ((nb v) &&& s))).toInt64))) F sw, 0, 0)) 1 rfl ?_
              rw [nI_1]
              refine wp_go (f' := (64, [.ref 28, .int (nI s), .int (nI q.2), .int (nI (lastN n s)), .int (nI v), .int (nI (u.2 + 1)), .int (nI (w + 1)), .retAddr 0, .retAddr 0, .retAddr 0, .retAddr 0], [], MW A (upB B 41 (vp_updL u.1 ((10 * q.2) + u.2) ((nI (pop ((nb v) &&& s))).toInt64))) F sw, 0, 0)) 1 rfl ?_
              have e3 : sqV nb s v w = ((nI (pop ((nb v) &&& s))).toInt64) := by unfold sqV; rw [if_pos h2]
              have e2 : sqW nb s v q.2 w u = (vp_updL u.1 (10 * q.2 + u.2) (((nI (pop ((nb v) &&& s))).toInt64)), u.2 + 1) := by unfold sqW; rw [if_pos h1, e3]
              rw [e2] at ih2
              exact ih2 (by show u.2 + 1 ≤ w + 1; omega)
        · intro hu
          refine wp_go (f' := ((if (nI (lastN n s)) ≤ (nI (lastN n s)) then 142 else 70), [.ref 28, .int (nI s), .int (nI q.2), .int (nI (lastN n s)), .int (nI v), .int (nI (forN (sqW nb s v q.2) (lastN n s) (q.1, 0)).2), .int (nI (lastN n s)), .retAddr 0, .retAddr 0, .retAddr 0, .retAddr 0], [], MW A (upB B 41 (forN (sqW nb s v q.2) (lastN n s) (q.1, 0)).1) F sw, 0, 0)) 3 rfl ?_
          refine wp_ite (fun _ => ?_) (fun h9 => absurd (nI_le (Nat.le_refl _) (by omega)) h9)
          refine wp_go (f' := (145, [.ref 28, .int (nI s), .int ((nI q.2) + 1), .int (nI (lastN n s)), .int (nI v), .int (nI (forN (sqW nb s v q.2) (lastN n s) (q.1, 0)).2), .int (nI (lastN n s)), .retAddr 0, .retAddr 0, .retAddr 0, .retAddr 0], [], MW A (upB B 41 (forN (sqW nb s v q.2) (lastN n s) (q.1, 0)).1) F sw, 0, 0)) 1 rfl ?_
          rw [nI_1]
          refine wp_go (f' := (148, [.ref 28, .int (nI s), .int (nI (q.2 + 1)), .int (nI (lastN n s)), .int ((nI v) + 1), .int (nI (forN (sqW nb s v q.2) (lastN n s) (q.1, 0)).2), .int (nI (lastN n s)), .retAddr 0, .retAddr 0, .retAddr 0, .retAddr 0], [], MW A (upB B 41 (forN (sqW nb s v q.2) (lastN n s) (q.1, 0)).1) F sw, 0, 0)) 1 rfl ?_
          rw [nI_1]
          refine wp_go (f' := (42, [.ref 28, .int (nI s), .int (nI (q.2 + 1)), .int (nI (lastN n s)), .int (nI (v + 1)), .int (nI (forN (sqW nb s v q.2) (lastN n s) (q.1, 0)).2), .int (nI (lastN n s)), .retAddr 0, .retAddr 0, .retAddr 0, .retAddr 0], [], MW A (upB B 41 (forN (sqW nb s v q.2) (lastN n s) (q.1, 0)).1) F sw, 0, 0)) 1 rfl ?_
          exact ih (by show q.2 + 1 ≤ v + 1; omega) _ _
    · intro hq e5 e6
      refine wp_go (f' := ((if (nI (lastN n s)) ≤ (nI (lastN n s)) then 151 else 48), [.ref 28, .int (nI s), .int (nI (sqN n nb s (B 41)).2), .int (nI (lastN n s)), .int (nI (lastN n s)), e5, e6, .retAddr 0, .retAddr 0, .retAddr 0, .retAddr 0], [], MW A (upB B 41 (sqN n nb s (B 41)).1) F sw, 0, 0)) 3 rfl ?_
      refine wp_ite (fun _ => ?_) (fun h9 => absurd (nI_le (Nat.le_refl _) (by omega)) h9)
      refine wp_go (f' := (157, [.ref 28, .int (nI s), .int (nI (sqN n nb s (B 41)).2), .int (nI (lastN n s)), .long 1, .retAddr 0, .int (nI 0), .retAddr 0, .retAddr 0, .retAddr 0, .retAddr 0], [], MW A (upB B 41 (sqN n nb s (B 41)).1) F sw, 0, 0)) 4 rfl ?_
      exact lp_trE (s := s) (m := (sqN n nb s (B 41)).2) (la := (lastN n s)) (by have h9 : (sqN n nb s (B 41)).2 ≤ (lastN n s) := hq; omega) (sqN n nb s (B 41)).2 0 (sqN n nb s (B 41)).1 1 (Nat.zero_add _) (by decide) _ _ _ _
end MM
