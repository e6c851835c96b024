/-! sets of at most ten vertices as numbers: nI under the class's bit tricks -/
theorem bx_and (a b : Nat) : nI a &&& nI b = nI (a &&& b) := by
  apply Int32.toBitVec_inj.1
  show BitVec.ofNat 32 a &&& BitVec.ofNat 32 b = BitVec.ofNat 32 (a &&& b)
  apply BitVec.eq_of_getLsbD_eq
  intro i hi
  simp [hi]
theorem bx_or (a b : Nat) : nI a ||| nI b = nI (a ||| b) := by
  apply Int32.toBitVec_inj.1
  show BitVec.ofNat 32 a ||| BitVec.ofNat 32 b = BitVec.ofNat 32 (a ||| b)
  apply BitVec.eq_of_getLsbD_eq
  intro i hi
  simp [hi]
theorem bx_xor (a b : Nat) : nI a ^^^ nI b = nI (a ^^^ b) := by
  apply Int32.toBitVec_inj.1
  show BitVec.ofNat 32 a ^^^ BitVec.ofNat 32 b = BitVec.ofNat 32 (a ^^^ b)
  apply BitVec.eq_of_getLsbD_eq
  intro i hi
  simp [hi]
theorem bx_sl : ∀ n, n < 32 → ((nI n &&& 31).toBitVec.smod 32).toNat = n := by decide +kernel
theorem bx_shr {s k : Nat} (hs : s < 2 ^ 31) (hk : k < 32) : nI s >>> (nI k &&& 31) = nI (s / 2 ^ k) := pk_shrN hs _ k (bx_sl k hk)
theorem bx_shl {a k : Nat} (hk : k < 32) (h : a * 2 ^ k < 2 ^ 32) : nI a <<< (nI k &&& 31) = nI (a * 2 ^ k) := pk_shlN _ k (bx_sl k hk) h
theorem bx_one {k : Nat} (hk : k < 31) : nI 1 <<< (nI k &&& 31) = nI (2 ^ k) := by
  rw [bx_shl (by omega) (by rw [Nat.one_mul]; exact Nat.pow_lt_pow_right (by omega) (by omega)), Nat.one_mul]
/-- 1 if it holds, 0 if not -/
def bI (p : Bool) : Int32 := match p with
  | true => 1
  | false => 0
theorem bI_t {p : Bool} (h : p = true) : bI p = 1 := by rw [h]; rfl
theorem bI_f {p : Bool} (h : p = false) : bI p = 0 := by rw [h]; rfl
theorem bI_01 (p : Bool) : bI p = 0 ∨ bI p = 1 := by cases p <;> simp [bI]
theorem bI_0 {p : Bool} : bI p = 0 ↔ p = false := by cases p <;> simp [bI]
theorem bI_1 {p : Bool} : bI p = 1 ↔ p = true := by cases p <;> simp [bI]
/-- bit k of a set -/
theorem bx_bit {s k : Nat} (hs : s < 2 ^ 31) (hk : k < 31) : (nI s >>> (nI k &&& 31)) &&& nI 1 = bI (s.testBit k) := by
  rw [bx_shr hs (by omega), bx_and, Nat.and_one_is_mod]
  have : (s / 2 ^ k) % 2 = (s.testBit k).toNat := by rw [Nat.toNat_testBit]
  rw [this]
  cases s.testBit k <;> rfl
/-- a without b, of at most ten vertices -/
def sd (a b : Nat) : Nat := a &&& (b ^^^ 1023)
theorem bx_not (b : Nat) : nI b ^^^ (-1) = nI (b ^^^ 4294967295) := by
  rw [show (-1 : Int32) = nI 4294967295 by decide, bx_xor]
theorem bt_1023 (i : Nat) : Nat.testBit 1023 i = decide (i < 10) := by
  rw [show 1023 = 2 ^ 10 - 1 by decide, Nat.testBit_two_pow_sub_one]
theorem bt_all1 (i : Nat) : Nat.testBit 4294967295 i = decide (i < 32) := by
  rw [show 4294967295 = 2 ^ 32 - 1 by decide, Nat.testBit_two_pow_sub_one]
theorem bt_big {s i n : Nat} (hs : s < 2 ^ n) (hi : n ≤ i) : s.testBit i = false := Nat.testBit_lt_two_pow (Nat.lt_of_lt_of_le hs (Nat.pow_le_pow_right (by omega) hi))
theorem sd_bit (a b i : Nat) (ha : a < 1024) : (sd a b).testBit i = (a.testBit i && !b.testBit i) := by
  unfold sd
  rw [Nat.testBit_and, Nat.testBit_xor, bt_1023]
  by_cases h : i < 10
  · simp [h]
  · rw [bt_big (n := 10) ha (by omega)]; simp
theorem sd_lt {a b : Nat} (ha : a < 1024) : sd a b < 1024 := Nat.lt_of_le_of_lt Nat.and_le_left ha
theorem sd_le {a b : Nat} : sd a b ≤ a := Nat.and_le_left
/-- a & ~b -/
theorem bx_sd {a b : Nat} (ha : a < 1024) : nI a &&& (nI b ^^^ (-1)) = nI (sd a b) := by
  rw [bx_not, bx_and]
  congr 1
  apply Nat.eq_of_testBit_eq
  intro i
  rw [sd_bit a b i ha, Nat.testBit_and, Nat.testBit_xor, bt_all1]
  by_cases h : i < 32
  · simp [h]
  · rw [bt_big (n := 10) ha (by omega)]; simp
theorem or_lt {a b : Nat} (ha : a < 1024) (hb : b < 1024) : a ||| b < 1024 := Nat.or_lt_two_pow (n := 10) ha hb
theorem and_lt {a b : Nat} (ha : a < 1024) : a &&& b < 1024 := Nat.lt_of_le_of_lt Nat.and_le_left ha
theorem pow_lt {k : Nat} (hk : k < 10) : 2 ^ k < 1024 := Nat.pow_lt_pow_right (n := 10) (by omega) hk
theorem bx_all {n : Nat} (hn : n ≤ 10) : nI (2 ^ n) - nI 1 = nI (2 ^ n - 1) := pk_sub (Nat.one_le_two_pow)
theorem all_bit (n i : Nat) : (2 ^ n - 1).testBit i = decide (i < n) := Nat.testBit_two_pow_sub_one n i
theorem all_lt {n : Nat} (hn : n ≤ 10) : 2 ^ n - 1 < 1024 := by
  have := Nat.pow_le_pow_right (n := 2) (by omega) hn
  omega
/-- how many vertices -/
def pop (s : Nat) : Nat := forN (fun k m => m + (s.testBit k).toNat) 10 0
/-- the lowest vertex of a set that is not empty (10 of the empty one) -/
def low (s : Nat) : Nat := if s.testBit 0 then 0 else if s.testBit 1 then 1 else if s.testBit 2 then 2 else if s.testBit 3 then 3 else if s.testBit 4 then 4 else if s.testBit 5 then 5 else if s.testBit 6 then 6 else if s.testBit 7 then 7 else if s.testBit 8 then 8 else if s.testBit 9 then 9 else 10
set_option maxRecDepth 100000 in
theorem ones_pop : ∀ s, s < 1024 → onesI (nI s) = nI (pop s) := by decide +kernel
theorem low_lt {s : Nat} (hs : s < 1024) (h0 : s ≠ 0) : low s < 10 := by
  have h : ∀ s, s < 1024 → s ≠ 0 → low s < 10 := by decide +kernel
  exact h s hs h0
theorem low_bit {s : Nat} (hs : s < 1024) (h0 : s ≠ 0) : s.testBit (low s) = true := by
  have h : ∀ s, s < 1024 → s ≠ 0 → s.testBit (low s) = true := by decide +kernel
  exact h s hs h0
theorem low_min {s : Nat} (hs : s < 1024) (k : Nat) (hk : k < low s) : s.testBit k = false := by
  have h : ∀ s, s < 1024 → (List.range (low s)).all (fun k => !s.testBit k) = true := by decide +kernel
  have := List.all_eq_true.mp (h s hs) k (List.mem_range.mpr hk)
  simpa using this
theorem pop_le {s : Nat} (hs : s < 1024) : pop s ≤ 10 := by
  have h : ∀ s, s < 1024 → pop s ≤ 10 := by decide +kernel
  exact h s hs
