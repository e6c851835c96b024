/-! the world of the law's loop: 42 cells. A: the arrays of ints, B: of longs (25 row, 26 spare, wherever they lie), F: int fields
(0 vertices, 1 edges, 2 changes, 3 changesAtRows, 4 settled, 5 changesAtSettled; the reference: 6 n, 7 edges, 8 found) -/
def mv_sw (b : Bool) (x y : Nat) : Nat := match b with
  | false => x
  | true => y
def mv_sx {α : Type} (b : Bool) (x y : α) : α := match b with
  | false => x
  | true => y
def MW (A : Nat → Nat → Int32) (B : Nat → Nat → Int64) (F : Nat → Int32) (sw : Bool) : mv_W := [
  .inr (5, [.ref 1, .ref 7, .ref 23, .ref 24]),
  .inr (2, [.ref 2, .ref 3, .ref 4, .ref 5, .ref 6, .int (F 0), .int (F 1), .int (F 2), .int (F 3)]),
  .inl (0, 10, .inl (A 2)),
  .inl (0, 10, .inl (A 3)),
  .inl (0, 1024, .inl (A 4)),
  .inl (0, 1024, .inl (A 5)),
  .inl (0, 1024, .inl (A 6)),
  .inr (4, [.ref 1, .ref 17, .ref 8, .ref 15, .ref 16, .int (F 4), .int (F 5)]),
  .inl (2, 6, .inr (.inr (.inr (.inr (fun j => if j < 6 then some (9 + j) else none))))),
  .inl (0, 10, .inl (A 9)),
  .inl (0, 10, .inl (A 10)),
  .inl (0, 10, .inl (A 11)),
  .inl (0, 10, .inl (A 12)),
  .inl (0, 10, .inl (A 13)),
  .inl (0, 10, .inl (A 14)),
  .inl (0, 6, .inl (A 15)),
  .inl (0, 1024, .inl (A 16)),
  .inr (3, [.ref 1, .ref 18, .ref 19, .ref 20, .ref 21, .ref 22]),
  .inl (0, 10, .inl (A 18)),
  .inl (0, 10, .inl (A 19)),
  .inl (0, 10, .inl (A 20)),
  .inl (0, 1024, .inl (A 21)),
  .inl (0, 1024, .inl (A 22)),
  .inr (1, [.ref 1]),
  .inr (0, [.ref 1, .ref (mv_sw sw 25 26), .ref (mv_sw sw 26 25), .ref 27]),
  .inl (1, 1024, .inr (.inl (mv_sx sw (B 25) (B 26)))),
  .inl (1, 1024, .inr (.inl (mv_sx sw (B 26) (B 25)))),
  .inl (1, 4608, .inr (.inl (B 27))),
  .inr (6, [.int (F 6), .ref 29, .ref 30, .int (F 7), .ref 31, .ref 32, .ref 33, .ref 34, .ref 35, .ref 36, .ref 37, .ref 38, .ref 39, .ref 40, .ref 41, .int (F 8)]),
  .inl (0, 10, .inl (A 29)),
  .inl (0, 10, .inl (A 30)),
  .inl (0, 1024, .inl (A 31)),
  .inl (0, 10, .inl (A 32)),
  .inl (0, 10, .inl (A 33)),
  .inl (0, 1024, .inl (A 34)),
  .inl (0, 10, .inl (A 35)),
  .inl (0, 10, .inl (A 36)),
  .inl (0, 10, .inl (A 37)),
  .inl (1, 1024, .inr (.inl (B 38))),
  .inl (1, 1024, .inr (.inl (B 39))),
  .inl (1, 10240, .inr (.inl (B 40))),
  .inl (1, 100, .inr (.inl (B 41)))]
def upA (A : Nat → Nat → Int32) (k : Nat) (f : Nat → Int32) : Nat → Nat → Int32 := fun i => match Nat.beq i k with
  | true => f
  | false => A i
def upB (B : Nat → Nat → Int64) (k : Nat) (f : Nat → Int64) : Nat → Nat → Int64 := fun i => match Nat.beq i k with
  | true => f
  | false => B i
def upF (F : Nat → Int32) (k : Nat) (x : Int32) : Nat → Int32 := fun i => match Nat.beq i k with
  | true => x
  | false => F i
section WP2
variable {xs : Nat → Int32} {Ls d cls : Nat} {ini : Bool} {ret : Option FieldType} {code : List (Nat × Instr × Nat)} {pc : Nat} {L st : List Value} {w : mv_W} {c k : Nat} {r : mv_R}
theorem wp_ite {g : Prop} [Decidable g] {t e : Nat} (ht : g → mv_Wp xs Ls d cls ini ret code (t, L, st, w, c, k) r) (he : ¬ g → mv_Wp xs Ls d cls ini ret code (e, L, st, w, c, k) r) : mv_Wp xs Ls d cls ini ret code ((if g then t else e), L, st, w, c, k) r := by
  by_cases h : g
  · rw [if_pos h]; exact ht h
  · rw [if_neg h]; exact he h
theorem wp_eq {f f' : mv_F} (h : f = f') (kk : mv_Wp xs Ls d cls ini ret code f' r) : mv_Wp xs Ls d cls ini ret code f r := h ▸ kk
theorem nI_idx {i m : Nat} (hi : i < m) (hm : m ≤ 1048576) : ¬ (nI i < 0 ∨ m ≤ (nI i).toNatClampNeg) := nI_in hi (by omega)
theorem wp_iald {a m i : Nat} {f : Nat → Int32} (hg : mv_get code pc = some (.iaload, 1)) (hw : w[a]? = some (.inl (0, m, .inl f))) (hi : i < m) (hm : m ≤ 1048576) (kk : mv_Wp xs Ls d cls ini ret code (pc + 1, L, .int (f i) :: st, w, c, k) r) : mv_Wp xs Ls d cls ini ret code (pc, L, .int (nI i) :: .ref a :: st, w, c, k) r := by
  refine wp_go 1 ?_ kk
  have hc := nI_clamp (show i < 2 ^ 31 by omega)
  have hx := nI_idx hi hm
  rw [hc] at hx
  unfold mv_gos
  dsimp only
  rw [hg]
  simp only [mv_one, mv_alu, mv_loc, mv_br, mv_heap, hw, hc, if_neg hx]
  rfl
theorem wp_lald {a m i : Nat} {f : Nat → Int64} (hg : mv_get code pc = some (.laload, 1)) (hw : w[a]? = some (.inl (1, m, .inr (.inl f)))) (hi : i < m) (hm : m ≤ 1048576) (kk : mv_Wp xs Ls d cls ini ret code (pc + 1, L, .long (f i) :: st, w, c, k) r) : mv_Wp xs Ls d cls ini ret code (pc, L, .int (nI i) :: .ref a :: st, w, c, k) r := by
  refine wp_go 1 ?_ kk
  have hc := nI_clamp (show i < 2 ^ 31 by omega)
  have hx := nI_idx hi hm
  rw [hc] at hx
  unfold mv_gos
  dsimp only
  rw [hg]
  simp only [mv_one, mv_alu, mv_loc, mv_br, mv_heap, hw, hc, if_neg hx]
  rfl
theorem wp_aald {a m i : Nat} {f : Nat → Option Nat} (hg : mv_get code pc = some (.aaload, 1)) (hw : w[a]? = some (.inl (2, m, .inr (.inr (.inr (.inr f)))))) (hi : i < m) (hm : m ≤ 1048576) (kk : mv_Wp xs Ls d cls ini ret code (pc + 1, L, va_rf (f i) :: st, w, c, k) r) : mv_Wp xs Ls d cls ini ret code (pc, L, .int (nI i) :: .ref a :: st, w, c, k) r := by
  refine wp_go 1 ?_ kk
  have hc := nI_clamp (show i < 2 ^ 31 by omega)
  have hx := nI_idx hi hm
  rw [hc] at hx
  unfold mv_gos
  dsimp only
  rw [hg]
  simp only [mv_one, mv_alu, mv_loc, mv_br, mv_heap, hw, hc, if_neg hx]
  rfl
theorem wp_iast {a m i : Nat} {f : Nat → Int32} {x : Int32} (hg : mv_get code pc = some (.iastore, 1)) (hw : w[a]? = some (.inl (0, m, .inl f))) (hi : i < m) (hm : m ≤ 1048576) (kk : mv_Wp xs Ls d cls ini ret code (pc + 1, L, st, w.set a (.inl (0, m, .inl (upd f i x))), c, k) r) : mv_Wp xs Ls d cls ini ret code (pc, L, .int x :: .int (nI i) :: .ref a :: st, w, c, k) r := by
  refine wp_go 1 ?_ kk
  have hc := nI_clamp (show i < 2 ^ 31 by omega)
  have hx := nI_idx hi hm
  rw [hc] at hx
  unfold mv_gos
  dsimp only
  rw [hg]
  simp only [mv_one, mv_alu, mv_loc, mv_br, mv_heap, hw, hc, if_neg hx]
  rfl
theorem wp_last {a m i : Nat} {f : Nat → Int64} {x : Int64} (hg : mv_get code pc = some (.lastore, 1)) (hw : w[a]? = some (.inl (1, m, .inr (.inl f)))) (hi : i < m) (hm : m ≤ 1048576) (kk : mv_Wp xs Ls d cls ini ret code (pc + 1, L, st, w.set a (.inl (1, m, .inr (.inl (vp_updL f i x)))), c, k) r) : mv_Wp xs Ls d cls ini ret code (pc, L, .long x :: .int (nI i) :: .ref a :: st, w, c, k) r := by
  refine wp_go 1 ?_ kk
  have hc := nI_clamp (show i < 2 ^ 31 by omega)
  have hx := nI_idx hi hm
  rw [hc] at hx
  unfold mv_gos
  dsimp only
  rw [hg]
  simp only [mv_one, mv_alu, mv_loc, mv_br, mv_heap, hw, hc, if_neg hx]
  rfl
end WP2
/-! a loop that counts: k = 0, 1 .. n - 1 -/
def forN {α : Type} (f : Nat → α → α) : Nat → α → α
  | 0, a => a
  | n + 1, a => f n (forN f n a)
theorem for_ind {α : Type} {P : Nat → α → Prop} {f : Nat → α → α} {n : Nat} (hs : ∀ k a, k < n → P (k + 1) (f k a) → P k a) : ∀ (j : Nat) (a : α), j ≤ n → P j (forN f j a) → P 0 a := by
  intro j
  induction j with
  | zero => intro a _ h; exact h
  | succ j ih => intro a hj h; exact ih a (by omega) (hs j _ (by omega) h)
/-- what M.ones answers: the reference's count of the ten lowest bits -/
def onesI (s : Int32) : Int32 := forN (fun k m => m + (s >>> (nI k &&& 31) &&& 1)) 10 0
theorem ev_ones {xs : Nat → Int32} {Ls d : Nat} (s : Int32) (w : mv_W) : mv_Ev xs Ls (d + 1) 97 [.int s] w (some (.int (onesI s)), w, 0, 0) := by
  refine ev_of_wp rfl rfl rfl ?_
  refine wp_go (f' := (4, [.int s, .int 0, .int (nI 0)], [], w, 0, 0)) 4 rfl ?_
  refine for_ind (P := fun k m => mv_Wp xs Ls d 6 false (some .int) mv_c97 (4, [.int s, .int m, .int (nI k)], [], w, 0, 0) (some (.int (onesI s)), w, 0, 0)) (f := fun k m => m + (s >>> (nI k &&& 31) &&& 1)) (n := 10) ?_ 10 0 (Nat.le_refl _) ?_
  · intro k m hk ih
    refine wp_go (f' := ((if nI 10 ≤ nI k then 24 else 10), [.int s, .int m, .int (nI k)], [], w, 0, 0)) 3 rfl ?_
    refine wp_ite (fun h => absurd h (nI_ge hk (by omega))) (fun _ => ?_)
    refine wp_go (f' := (4, [.int s, .int (m + (s >>> (nI k &&& 31) &&& 1)), .int (nI k + 1)], [], w, 0, 0)) 10 rfl ?_
    rw [nI_1]
    exact ih
  · refine wp_go (f' := ((if nI 10 ≤ nI 10 then 24 else 10), [.int s, .int (onesI s), .int (nI 10)], [], w, 0, 0)) 3 rfl ?_
    refine wp_ite (fun _ => ?_) (fun h => absurd (nI_le (Nat.le_refl _) (by omega)) h)
    refine wp_go (f' := (25, [.int s, .int (onesI s), .int (nI 10)], [.int (onesI s)], w, 0, 0)) 1 rfl ?_
    exact wp_iret rfl
