theorem wr_c {x : Option Nat} {a : Nat} {P : Nat → Prop} (h : x = some a) (p : P a) : ax_wr x P := by rw [h]; exact p
theorem in_c {μ : ax_M} {a n t : Nat} (h : mZ μ a = n) (ht : t < n) (hn : n < 2 ^ 31) : vp_in (nI t) (mZ μ a) := by rw [h]; exact vp_in_nI ht hn
/-- a grid: an array of n rows of z ints, each in its own cell -/
def isGrid (μ : ax_M) (x : Option Nat) (g n z : Nat) : Prop := x = some g ∧ 64 ≤ g ∧ mK μ g = 28 ∧ mZ μ g = n ∧ (∀ t, t < n → gR μ g t = some (g + 1 + t) ∧ mK μ (g + 1 + t) = 21 ∧ mZ μ (g + 1 + t) = z) ∧ n < 2 ^ 31 ∧ z < 2 ^ 31
theorem isGrid.row {μ : ax_M} {x : Option Nat} {g n z t : Nat} (h : isGrid μ x g n z) (ht : t < n) {P : Nat → Prop} (p : P (g + 1 + t)) : ax_wr x (fun a1 => ((mK μ a1 = 28 ∧ vp_in (nI t) (mZ μ a1)) ∧ ax_wr (gR μ a1 (Int32.toNatClampNeg (nI t))) P)) := by
  obtain ⟨h1, h0, h2, h3, h4, h5, h6⟩ := h
  refine wr_c h1 ⟨⟨h2, in_c h3 ht h5⟩, ?_⟩
  rw [clN (by omega)]
  exact wr_c (h4 t ht).1 p
theorem isGrid.rd {μ : ax_M} {x : Option Nat} {g n z t m : Nat} (h : isGrid μ x g n z) (ht : t < n) (hm : m < z) {P : Nat → Prop} (p : P (g + 1 + t)) : ax_wr x (fun a1 => ((mK μ a1 = 28 ∧ vp_in (nI t) (mZ μ a1)) ∧ ax_wr (gR μ a1 (Int32.toNatClampNeg (nI t))) (fun a2 => ((mK μ a2 = 21 ∧ vp_in (nI m) (mZ μ a2)) ∧ P a2)))) := by
  have q := h.2.2.2.2.1 t ht
  exact h.row ht ⟨⟨q.2.1, in_c q.2.2 hm h.2.2.2.2.2.2⟩, p⟩
/-- the tables of things and houses -/
def isCourse (μ : ax_M) (c : Nat) : Prop := (64 ≤ c ∧ mK μ c = 1) ∧ isGrid μ (gR μ c 0) (c + 1) 8 12 ∧ isGrid μ (gR μ c 1) (c + 10) 8 12 ∧ isGrid μ (gR μ c 2) (c + 19) 8 12 ∧ isGrid μ (gR μ c 3) (c + 28) 8 12 ∧ isGrid μ (gR μ c 4) (c + 37) 8 12 ∧ isGrid μ (gR μ c 5) (c + 46) 8 12 ∧ isGrid μ (gR μ c 6) (c + 55) 12 12 ∧ isGrid μ (gR μ c 7) (c + 68) 12 12
theorem isCourse.k {μ : ax_M} {c : Nat} (h : isCourse μ c) : mK μ c = 1 := h.1.2
theorem isCourse.ge {μ : ax_M} {c : Nat} (h : isCourse μ c) : 64 ≤ c := h.1.1
theorem isCourse.g0 {μ : ax_M} {c : Nat} (h : isCourse μ c) : isGrid μ (gR μ c 0) (c + 1) 8 12 := h.2.1
theorem isCourse.g1 {μ : ax_M} {c : Nat} (h : isCourse μ c) : isGrid μ (gR μ c 1) (c + 10) 8 12 := h.2.2.1
theorem isCourse.g2 {μ : ax_M} {c : Nat} (h : isCourse μ c) : isGrid μ (gR μ c 2) (c + 19) 8 12 := h.2.2.2.1
theorem isCourse.g3 {μ : ax_M} {c : Nat} (h : isCourse μ c) : isGrid μ (gR μ c 3) (c + 28) 8 12 := h.2.2.2.2.1
theorem isCourse.g4 {μ : ax_M} {c : Nat} (h : isCourse μ c) : isGrid μ (gR μ c 4) (c + 37) 8 12 := h.2.2.2.2.2.1
theorem isCourse.g5 {μ : ax_M} {c : Nat} (h : isCourse μ c) : isGrid μ (gR μ c 5) (c + 46) 8 12 := h.2.2.2.2.2.2.1
theorem isCourse.g6 {μ : ax_M} {c : Nat} (h : isCourse μ c) : isGrid μ (gR μ c 6) (c + 55) 12 12 := h.2.2.2.2.2.2.2.1
theorem isCourse.g7 {μ : ax_M} {c : Nat} (h : isCourse μ c) : isGrid μ (gR μ c 7) (c + 68) 12 12 := h.2.2.2.2.2.2.2.2
/-- an array of objects of kind ko, i-th at f i -/
def isRow (μ : ax_M) (x : Option Nat) (g k n ko : Nat) (f : Nat → Nat) : Prop := x = some g ∧ 64 ≤ g ∧ mK μ g = k ∧ mZ μ g = n ∧ (∀ t, t < n → gR μ g t = some (f t) ∧ 64 ≤ f t ∧ mK μ (f t) = ko) ∧ n < 2 ^ 31
theorem isRow.rd {μ : ax_M} {x : Option Nat} {g k n ko t : Nat} {f : Nat → Nat} (h : isRow μ x g k n ko f) (ht : t < n) {P : Nat → Prop} (p : P (f t)) : ax_wr x (fun a1 => ((mK μ a1 = k ∧ vp_in (nI t) (mZ μ a1)) ∧ ax_wr (gR μ a1 (Int32.toNatClampNeg (nI t))) P)) := by
  obtain ⟨h1, h0, h2, h3, h4, h5⟩ := h
  refine wr_c h1 ⟨⟨h2, in_c h3 ht h5⟩, ?_⟩
  rw [clN (by omega)]
  exact wr_c (h4 t ht).1 p
/-- the class's land -/
def isLand (μ : ax_M) (L : Nat) : Prop := (64 ≤ L ∧ mK μ L = 3) ∧ isRow μ (gR μ L 0) (L + 1) 27 8 8 (fun i => L + 5 + i) ∧ isRow μ (gR μ L 1) (L + 2) 24 20 0 (fun i => L + 13 + i) ∧ isRow μ (gR μ L 2) (L + 3) 25 3 2 (fun i => L + 33 + 2 * i) ∧ isRow μ (gR μ L 3) (L + 4) 26 3 5 (fun i => L + 39 + i) ∧ (∀ i, i < 3 → gR μ (L + 33 + 2 * i) 0 = some (L + 34 + 2 * i) ∧ mK μ (L + 34 + 2 * i) = 21 ∧ mZ μ (L + 34 + 2 * i) = 4)
theorem isLand.k {μ : ax_M} {L : Nat} (h : isLand μ L) : mK μ L = 3 := h.1.2
theorem isLand.ge {μ : ax_M} {L : Nat} (h : isLand μ L) : 64 ≤ L := h.1.1
theorem isLand.tg {μ : ax_M} {L : Nat} (h : isLand μ L) : isRow μ (gR μ L 0) (L + 1) 27 8 8 (fun i => L + 5 + i) := h.2.1
theorem isLand.cg {μ : ax_M} {L : Nat} (h : isLand μ L) : isRow μ (gR μ L 1) (L + 2) 24 20 0 (fun i => L + 13 + i) := h.2.2.1
theorem isLand.hg {μ : ax_M} {L : Nat} (h : isLand μ L) : isRow μ (gR μ L 2) (L + 3) 25 3 2 (fun i => L + 33 + 2 * i) := h.2.2.2.1
theorem isLand.og {μ : ax_M} {L : Nat} (h : isLand μ L) : isRow μ (gR μ L 3) (L + 4) 26 3 5 (fun i => L + 39 + i) := h.2.2.2.2.1
theorem isLand.wg {μ : ax_M} {L : Nat} (h : isLand μ L) {i : Nat} (hi : i < 3) : gR μ (L + 33 + 2 * i) 0 = some (L + 34 + 2 * i) ∧ mK μ (L + 34 + 2 * i) = 21 ∧ mZ μ (L + 34 + 2 * i) = 4 := h.2.2.2.2.2 i hi
/-! the first contracts: what a call answers, goal first -/
section C1
variable {l : Launch} {G : ax_G} {μ : ax_M} {Q : Option ax_V → ax_M → Prop}
theorem c0 {x : Int32} (q0 : x = 0 → Q (some (ax_i 0)) μ) (q1 : ¬ x = 0 → x = 1 → Q (some (ax_i 2)) μ) (q2 : ¬ x = 0 → ¬ x = 1 → Q (some (ax_i 3)) μ) : ax_Ct l G 0 [ax_i x] μ Q :=
  ax_Ct.of (by decide) (Nat.le_of_ble_eq_true rfl) (sg0_0 l G Q x μ ⟨q0, fun h => ⟨q1 h, q2 h⟩⟩)
theorem c14 {c t m : Nat} (hc : isCourse μ c) (ht : t < 8) (hm : m < 12) (q : Q (some (ax_i (bI (decide (gI μ (c + 47 + t) m = 1))))) μ) : ax_Ct l G 14 [ax_r (some c), ax_i (nI t), ax_i (nI m)] μ Q := by
  refine ax_Ct.of (by decide) (Nat.le_of_ble_eq_true rfl) (sg14_0 l G Q c (nI t) (nI m) μ ⟨hc.k, hc.g5.rd ht hm ?_⟩)
  rw [clN (by omega)]
  refine ⟨fun h => ⟨Or.inr rfl, ?_⟩, fun h => ⟨Or.inl rfl, ?_⟩⟩
  · rw [decide_eq_true h] at q; exact q
  · rw [decide_eq_false h] at q; exact q
theorem c6 {x y : Int32} (q : Q (some (ax_i (x * 4 + y))) μ) : ax_Ct l G 6 [ax_i x, ax_i y] μ Q := ax_Ct.of (by decide) (Nat.le_of_ble_eq_true rfl) (sg6_0 l G Q x y μ q)
end C1
