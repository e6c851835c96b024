/-! vertices taken out one after the other -/
def Lap (w : Nat → Nat → Rat) (S u v : Nat) : Rat := if u = v then wS w u (sd S (2 ^ u)) else - w u v
theorem qf6 (a x D y : Rat) (h0 : ¬ D = 0) (hy : y = D - x) : a + x / D * y = a + x - x * x / D := by rw [hy]; grind
theorem lap_mesh {w : Nat → Nat → Rat} (hw : ∀ u v, w u v = w v u) {S k u v : Nat} (hS : S < 1024) (hk : k < 10) (hSk : S.testBit k = true) (hu : S.testBit u = true) (hv : S.testBit v = true) (huk : u ≠ k) (hvk : v ≠ k) (hD : ¬ wS w k (sd S (2 ^ k)) = 0) : Lap (mesh w k (wS w k (sd S (2 ^ k)))) (sd S (2 ^ k)) u v = Lap w S u v - Lap w S u k * Lap w S k v / Lap w S k k := by
  have hkk : Lap w S k k = wS w k (sd S (2 ^ k)) := by unfold Lap; rw [if_pos rfl]
  have huk2 : Lap w S u k = - w u k := by unfold Lap; rw [if_neg huk]
  have hkv2 : Lap w S k v = - w k v := by unfold Lap; rw [if_neg (fun g => hvk g.symm)]
  rw [hkk, huk2, hkv2]
  have hu10 := bit_lt10 hS hu
  by_cases e : u = v
  · subst e
    unfold Lap
    rw [if_pos rfl, if_pos rfl]
    have hUk : (sd S (2 ^ u)).testBit k = true := (sd_t hS).mpr ⟨hSk, Bool.eq_false_iff.mpr (fun g => huk (pow_t.mp g).symm)⟩
    have hKu : (sd S (2 ^ k)).testBit u = true := (sd_t hS).mpr ⟨hu, Bool.eq_false_iff.mpr (fun g => huk (pow_t.mp g))⟩
    have h1 := wS_split (w := w) (r := u) (sd_lt hS) hk hUk
    have h2 := wS_split (w := w) (r := k) (sd_lt hS) hu10 hKu
    rw [sd_comm hS] at h1
    generalize wS w k (sd S (2 ^ k)) = D at hD h2 ⊢
    have e1 : wS (mesh w k D) u (sd (sd S (2 ^ k)) (2 ^ u)) = wS w u (sd (sd S (2 ^ k)) (2 ^ u)) + w k u / D * wS w k (sd (sd S (2 ^ k)) (2 ^ u)) := by
      unfold wS
      rw [← Sg_mul, ← Sg_add]
      refine Sg_congr 10 (fun b _ => ?_)
      try dsimp only
      split
      · unfold mesh; grind
      · grind
    rw [e1, h1, hw u k, qf6 _ _ D _ hD (by grind)]
    grind
  · unfold Lap
    rw [if_neg e, if_neg e]
    unfold mesh
    rw [hw u k]
    grind
/-- weights and what is left, when v 0, v 1 .. are taken out -/
def outK (v : Nat → Nat) (w : Nat → Nat → Rat) (S : Nat) : Nat → (Nat → Nat → Rat) × Nat
  | 0 => (w, S)
  | k + 1 => (mesh (outK v w S k).1 (v k) (wS (outK v w S k).1 (v k) (sd (outK v w S k).2 (2 ^ v k))), sd (outK v w S k).2 (2 ^ v k))
def pvK (v : Nat → Nat) (w : Nat → Nat → Rat) (S k : Nat) : Rat := wS (outK v w S k).1 (v k) (sd (outK v w S k).2 (2 ^ v k))
/-- the product of the pivots -/
def prK (v : Nat → Nat) (w : Nat → Nat → Rat) (S : Nat) : Nat → Rat
  | 0 => 1
  | k + 1 => prK v w S k * pvK v w S k
theorem out_sym {v : Nat → Nat} {w : Nat → Nat → Rat} {S : Nat} (hw : ∀ a b, w a b = w b a) : ∀ k, ∀ a b, (outK v w S k).1 a b = (outK v w S k).1 b a
  | 0 => hw
  | k + 1 => mesh_sym (out_sym hw k) _ _
theorem out_nn {v : Nat → Nat} {w : Nat → Nat → Rat} {S : Nat} (hw : ∀ a b, 0 ≤ w a b) : ∀ k, ∀ a b, 0 ≤ (outK v w S k).1 a b
  | 0 => hw
  | k + 1 => mesh_nn (out_nn hw k) _ (wS_nn (out_nn hw k) _ _)
theorem out_set {v : Nat → Nat} {w : Nat → Nat → Rat} {S : Nat} (hS : S < 1024) : ∀ k, (outK v w S k).2 < 1024 ∧ ∀ i, (outK v w S k).2.testBit i = true ↔ S.testBit i = true ∧ ∀ j, j < k → i ≠ v j
  | 0 => ⟨hS, fun i => ⟨fun h => ⟨h, fun j hj => absurd hj (Nat.not_lt_zero _)⟩, fun h => h.1⟩⟩
  | k + 1 => by
    obtain ⟨h1, h2⟩ := out_set hS k
    refine ⟨sd_lt h1, fun i => ?_⟩
    show (sd (outK v w S k).2 (2 ^ v k)).testBit i = true ↔ _
    rw [sd_t h1, h2]
    constructor
    · rintro ⟨⟨a, b⟩, c⟩
      refine ⟨a, fun j hj => ?_⟩
      by_cases e : j = k
      · rw [e]; intro g; rw [g, pow_t.mpr rfl] at c; cases c
      · exact b j (by omega)
    · rintro ⟨a, b⟩
      exact ⟨⟨a, fun j hj => b j (by omega)⟩, Bool.eq_false_iff.mpr (fun g => b k (by omega) (pow_t.mp g))⟩
/-- the square when k are out -/
def sqK (v : Nat → Nat) (w : Nat → Nat → Rat) (S k : Nat) : Nat → Nat → Rat := fun r c => Lap (outK v w S k).1 (outK v w S k).2 (v (k + r)) (v (k + c))
theorem sq_00 {v : Nat → Nat} {w : Nat → Nat → Rat} {S k : Nat} : sqK v w S k 0 0 = pvK v w S k := by
  unfold sqK Lap pvK
  rw [if_pos rfl]
  rfl
/-- one step is a Schur complement -/
theorem sq_schur {v : Nat → Nat} {w : Nat → Nat → Rat} {S m : Nat} (hS : S < 1024) (hw : ∀ a b, w a b = w b a) (hv : ∀ j, j < m → S.testBit (v j) = true) (hinj : ∀ i j, i < m → j < m → v i = v j → i = j) {k : Nat} (hD : ¬ pvK v w S k = 0) {r c : Nat} (hr : k + 1 + r < m) (hc : k + 1 + c < m) : sqK v w S (k + 1) r c = schur (sqK v w S k) r c := by
  obtain ⟨h1, h2⟩ := out_set (v := v) (w := w) hS k
  have hin : ∀ j, k ≤ j → j < m → (outK v w S k).2.testBit (v j) = true := fun j hj hjm => (h2 _).mpr ⟨hv j hjm, fun i hi g => by have := hinj j i hjm (by omega) g; omega⟩
  have hne : ∀ j, k < j → j < m → v j ≠ v k := fun j hj hjm g => by have := hinj j k hjm (by omega) g; omega
  have h := lap_mesh (out_sym hw k) h1 (bit_lt10 hS (hv k (by omega))) (hin k (Nat.le_refl _) (by omega)) (hin (k + 1 + r) (by omega) hr) (hin (k + 1 + c) (by omega) hc) (hne _ (by omega) hr) (hne _ (by omega) hc) hD
  unfold schur sqK
  rw [show k + (r + 1) = k + 1 + r by omega, show k + (c + 1) = k + 1 + c by omega, Nat.add_zero]
  exact h
/-- trees and pivots -/
theorem tau_out {v : Nat → Nat} {w : Nat → Nat → Rat} {S m : Nat} (hS : S < 1024) (hw : ∀ a b, w a b = w b a) (hnn : ∀ a b, 0 ≤ w a b) (hv : ∀ j, j < m → S.testBit (v j) = true) (hinj : ∀ i j, i < m → j < m → v i = v j → i = j) {l : Nat} (hl : S.testBit l = true) (hlv : ∀ j, j < m → l ≠ v j) : ∀ k, k ≤ m → (∀ i, i < k → ¬ pvK v w S i = 0) → tau w S = prK v w S k * tau (outK v w S k).1 (outK v w S k).2
  | 0, _, _ => by show tau w S = 1 * tau w S; grind
  | k + 1, hk, hp => by
    rw [tau_out hS hw hnn hv hinj hl hlv k (by omega) (fun i hi => hp i (by omega))]
    obtain ⟨h1, h2⟩ := out_set (v := v) (w := w) hS k
    have hin : (outK v w S k).2.testBit (v k) = true := (h2 _).mpr ⟨hv k (by omega), fun i hi g => by have := hinj k i (by omega) (by omega) g; omega⟩
    have hlin : (sd (outK v w S k).2 (2 ^ v k)).testBit l = true := (sd_t h1).mpr ⟨(h2 _).mpr ⟨hl, fun j hj => hlv j (by omega)⟩, Bool.eq_false_iff.mpr (fun g => hlv k (by omega) (pow_t.mp g))⟩
    have hne : ¬ sd (outK v w S k).2 (2 ^ v k) = 0 := fun g => by rw [g] at hlin; simp at hlin
    have hst := star_all _ h1 (outK v w S k).1 (out_sym hw k) (out_nn hnn k) (v k) (bit_lt10 hS (hv k (by omega))) hin hne (hp k (by omega))
    unfold star at hst
    rw [hst]
    show _ = prK v w S k * pvK v w S k * _
    unfold pvK
    show _ = _ * tau (mesh (outK v w S k).1 (v k) (wS (outK v w S k).1 (v k) (sd (outK v w S k).2 (2 ^ v k)))) (sd (outK v w S k).2 (2 ^ v k))
    grind
/-- the square with one row and one column put to the first k -/
def brd (R : Nat → Nat → Rat) (k r c : Nat) : Nat → Nat → Rat := fun i j => R (if i < k then i else k + r) (if j < k then j else k + c)
theorem brd_schur {R : Nat → Nat → Rat} {k r c : Nat} : schur (brd R (k + 1) r c) = brd (schur R) k r c := by
  funext i j
  have h1 : (if i + 1 < k + 1 then i + 1 else k + 1 + r) = (if i < k then i else k + r) + 1 := by split <;> split <;> omega
  have h2 : (if j + 1 < k + 1 then j + 1 else k + 1 + c) = (if j < k then j else k + c) + 1 := by split <;> split <;> omega
  have h3 : (if 0 < k + 1 then 0 else k + 1 + r) = 0 := if_pos (by omega)
  have h4 : (if 0 < k + 1 then 0 else k + 1 + c) = 0 := if_pos (by omega)
  unfold schur brd
  rw [h1, h2, h3, h4]
/-- what stands in the square is a minor of the first one -/
theorem minor_eq {v : Nat → Nat} {w : Nat → Nat → Rat} {S m : Nat} (hS : S < 1024) (hw : ∀ a b, w a b = w b a) (hv : ∀ j, j < m → S.testBit (v j) = true) (hinj : ∀ i j, i < m → j < m → v i = v j → i = j) : ∀ (d k r c : Nat), k + d + r < m → k + d + c < m → (∀ i, i < k + d → ¬ pvK v w S i = 0) → prK v w S k * detG (d + 1) (brd (sqK v w S k) d r c) = prK v w S (k + d) * sqK v w S (k + d) r c
  | 0, k, r, c, hr, hc, hp => by
    have e : detG (0 + 1) (brd (sqK v w S k) 0 r c) = sqK v w S k r c := by
      show Sg (fun i => sgE i * (brd (sqK v w S k) 0 r c i 0 * detG 0 (mnr (brd (sqK v w S k) 0 r c) i))) 1 = _
      rw [Sg_s]
      show (0 : Rat) + sgE 0 * (brd (sqK v w S k) 0 r c 0 0 * 1) = _
      have e2 : brd (sqK v w S k) 0 r c 0 0 = sqK v w S k r c := by unfold brd; rw [if_neg (by omega), if_neg (by omega), Nat.zero_add, Nat.zero_add]
      rw [e2, show sgE (α := Rat) 0 = 1 from rfl]
      grind
    rw [e]; rfl
  | d + 1, k, r, c, hr, hc, hp => by
    have hpk := hp k (by omega)
    have h00 : brd (sqK v w S k) (d + 1) r c 0 0 = pvK v w S k := by
      unfold brd
      rw [if_pos (by omega), if_pos (by omega), sq_00]
    rw [det_schur (by rw [h00]; exact hpk), h00, brd_schur]
    have hcg : detG (d + 1) (brd (schur (sqK v w S k)) d r c) = detG (d + 1) (brd (sqK v w S (k + 1)) d r c) := by
      refine det_cong (d + 1) _ _ (fun i j hi hj => ?_)
      unfold brd
      refine (sq_schur hS hw hv hinj hpk ?_ ?_).symm
      · split <;> omega
      · split <;> omega
    have ih := minor_eq hS hw hv hinj d (k + 1) r c (by omega) (by omega) (fun i hi => hp i (by omega))
    rw [hcg]
    have e1 : prK v w S (k + 1) = prK v w S k * pvK v w S k := rfl
    rw [e1] at ih
    rw [show k + (d + 1) = k + 1 + d by omega, ← ih]
    grind
