/-! numbers -/
theorem nI_mul (a b : Nat) : nI a * nI b = nI (a * b) := (Int32.ofNat_mul a b).symm
theorem nI_sub {a b : Nat} (h : b ≤ a) : nI a - nI b = nI (a - b) := by
  obtain ⟨d, rfl⟩ : ∃ d, a = b + d := ⟨a - b, by omega⟩
  rw [← nI_add, Nat.add_sub_cancel_left, Int32.add_comm, Int32.add_sub_cancel]
theorem lN_toI {n : Nat} (h : n < 2 ^ 63) : (lN n).toInt = (n : Int) := lg_ofNat_toInt (by omega)
theorem lN_ltI {a b : Nat} (ha : a < 2 ^ 63) (hb : b < 2 ^ 63) : lN a < lN b ↔ a < b := by
  rw [Int64.lt_iff_toInt_lt, lN_toI ha, lN_toI hb]; omega
theorem lN_leI {a b : Nat} (ha : a < 2 ^ 63) (hb : b < 2 ^ 63) : lN a ≤ lN b ↔ a ≤ b := by
  rw [Int64.le_iff_toInt_le, lN_toI ha, lN_toI hb]; omega
theorem lN_eqI {a b : Nat} (ha : a < 2 ^ 63) (hb : b < 2 ^ 63) : lN a = lN b ↔ a = b := by
  rw [← Int64.toInt_inj, lN_toI ha, lN_toI hb]; omega
theorem lN_div {a b : Nat} (ha : a < 2 ^ 63) (hb : b < 2 ^ 63) : lN a / lN b = lN (a / b) := by
  have hd : a / b < 2 ^ 63 := Nat.lt_of_le_of_lt (Nat.div_le_self a b) ha
  rw [← Int64.toInt_inj, Int64.toInt_div, lN_toI ha, lN_toI hb, lN_toI hd, Int.tdiv_eq_ediv_of_nonneg (by omega)]
  have : ((a : Int) / (b : Int)) = ((a / b : Nat) : Int) := by omega
  rw [this]
  generalize a / b = d at hd
  apply Int.bmod_eq_of_le <;> omega
theorem nI_div {a b : Nat} (ha : a < 2 ^ 31) (hb : b < 2 ^ 31) : nI a / nI b = nI (a / b) := by
  have hd : a / b < 2 ^ 31 := Nat.lt_of_le_of_lt (Nat.div_le_self a b) ha
  rw [← Int32.toInt_inj, Int32.toInt_div, nI_toInt ha, nI_toInt hb, nI_toInt hd, Int.tdiv_eq_ediv_of_nonneg (by omega)]
  have : ((a : Int) / (b : Int)) = ((a / b : Nat) : Int) := by omega
  rw [this]
  generalize a / b = d at hd
  apply Int.bmod_eq_of_le <;> omega
theorem wr_s (a : Nat) (P : Nat → Prop) : ax_wr (some a) P = P a := rfl
theorem in_nI {t n : Nat} (h : t < n) (hn : n < 2 ^ 31) : vp_in (nI t) n = True := eq_true (vp_in_nI h hn)
theorem in_c0 {n : Nat} (h : 0 < n) (hn : n < 2 ^ 31) : vp_in 0 n = True := eq_true (vp_in_nI (n := 0) h hn)
theorem cl0 : Int32.toNatClampNeg 0 = 0 := rfl
theorem nI_p1 (n : Nat) : nI n + 1 = nI (n + 1) := nI_1 n
theorem nI_m1 {n : Nat} (h : 1 ≤ n) : nI n - 1 = nI (n - 1) := nI_sub (b := 1) h
theorem ti_z (x : Int32) (P : Int32 → Prop) : (∀ z : Int32, z = x → P z) = P x := propext ⟨fun h => h x rfl, fun h z e => e ▸ h⟩
theorem ti_l (x : Int64) (P : Int64 → Prop) : (∀ z : Int64, z = x → P z) = P x := propext ⟨fun h => h x rfl, fun h z e => e ▸ h⟩
theorem br_T {c A B : Prop} (h : c) : ax_br c A B = A := propext ⟨fun q => q.1 h, fun a => ⟨fun _ => a, fun n => absurd h n⟩⟩
theorem br_F {c A B : Prop} (h : ¬ c) : ax_br c A B = B := propext ⟨fun q => q.2 h, fun b => ⟨fun q => absurd q h, fun _ => b⟩⟩
/-! shapes as equations -/
theorem isCourse.all {μ : ax_M} {c : Nat} (h : isCourse μ c) : (mK μ c = 1 ∧ gR μ c 0 = some (c + 1) ∧ gR μ c 1 = some (c + 10) ∧ gR μ c 2 = some (c + 19) ∧ gR μ c 3 = some (c + 28) ∧ gR μ c 4 = some (c + 37) ∧ gR μ c 5 = some (c + 46) ∧ gR μ c 6 = some (c + 55) ∧ gR μ c 7 = some (c + 68)) ∧
  (mK μ (c + 1) = 28 ∧ mK μ (c + 10) = 28 ∧ mK μ (c + 19) = 28 ∧ mK μ (c + 28) = 28 ∧ mK μ (c + 37) = 28 ∧ mK μ (c + 46) = 28 ∧ mK μ (c + 55) = 28 ∧ mK μ (c + 68) = 28) ∧
  (mZ μ (c + 1) = 8 ∧ mZ μ (c + 10) = 8 ∧ mZ μ (c + 19) = 8 ∧ mZ μ (c + 28) = 8 ∧ mZ μ (c + 37) = 8 ∧ mZ μ (c + 46) = 8 ∧ mZ μ (c + 55) = 12 ∧ mZ μ (c + 68) = 12) ∧
  (∀ t, t < 8 → gR μ (c + 1) t = some (c + 2 + t) ∧ gR μ (c + 10) t = some (c + 11 + t) ∧ gR μ (c + 19) t = some (c + 20 + t) ∧ gR μ (c + 28) t = some (c + 29 + t) ∧ gR μ (c + 37) t = some (c + 38 + t) ∧ gR μ (c + 46) t = some (c + 47 + t) ∧
    mK μ (c + 2 + t) = 21 ∧ mK μ (c + 11 + t) = 21 ∧ mK μ (c + 20 + t) = 21 ∧ mK μ (c + 29 + t) = 21 ∧ mK μ (c + 38 + t) = 21 ∧ mK μ (c + 47 + t) = 21 ∧
    mZ μ (c + 2 + t) = 12 ∧ mZ μ (c + 11 + t) = 12 ∧ mZ μ (c + 20 + t) = 12 ∧ mZ μ (c + 29 + t) = 12 ∧ mZ μ (c + 38 + t) = 12 ∧ mZ μ (c + 47 + t) = 12) ∧
  (∀ t, t < 12 → gR μ (c + 55) t = some (c + 56 + t) ∧ gR μ (c + 68) t = some (c + 69 + t) ∧ mK μ (c + 56 + t) = 21 ∧ mK μ (c + 69 + t) = 21 ∧ mZ μ (c + 56 + t) = 12 ∧ mZ μ (c + 69 + t) = 12) := by
  obtain ⟨h, h0, h1, h2, h3, h4, h5, h6, h7⟩ := h
  refine ⟨⟨h.2, h0.1, h1.1, h2.1, h3.1, h4.1, h5.1, h6.1, h7.1⟩, ⟨h0.2.2.1, h1.2.2.1, h2.2.2.1, h3.2.2.1, h4.2.2.1, h5.2.2.1, h6.2.2.1, h7.2.2.1⟩, ⟨h0.2.2.2.1, h1.2.2.2.1, h2.2.2.2.1, h3.2.2.2.1, h4.2.2.2.1, h5.2.2.2.1, h6.2.2.2.1, h7.2.2.2.1⟩, fun t ht => ?_, fun t ht => ?_⟩
  · have q0 := h0.2.2.2.2.1 t ht
    have q1 := h1.2.2.2.2.1 t ht
    have q2 := h2.2.2.2.2.1 t ht
    have q3 := h3.2.2.2.2.1 t ht
    have q4 := h4.2.2.2.2.1 t ht
    have q5 := h5.2.2.2.2.1 t ht
    exact ⟨q0.1, q1.1, q2.1, q3.1, q4.1, q5.1, q0.2.1, q1.2.1, q2.2.1, q3.2.1, q4.2.1, q5.2.1, q0.2.2, q1.2.2, q2.2.2, q3.2.2, q4.2.2, q5.2.2⟩
  · have q0 := h6.2.2.2.2.1 t ht
    have q1 := h7.2.2.2.2.1 t ht
    exact ⟨q0.1, q1.1, q0.2.1, q1.2.1, q0.2.2, q1.2.2⟩
theorem isLand.all {μ : ax_M} {L : Nat} (h : isLand μ L) : (mK μ L = 3 ∧ gR μ L 0 = some (L + 1) ∧ gR μ L 1 = some (L + 2) ∧ gR μ L 2 = some (L + 3) ∧ gR μ L 3 = some (L + 4) ∧ mK μ (L + 1) = 27 ∧ mK μ (L + 2) = 24 ∧ mK μ (L + 3) = 25 ∧ mK μ (L + 4) = 26 ∧ mZ μ (L + 1) = 8 ∧ mZ μ (L + 2) = 20 ∧ mZ μ (L + 3) = 3 ∧ mZ μ (L + 4) = 3) ∧
  (∀ t, t < 8 → gR μ (L + 1) t = some (L + 5 + t) ∧ mK μ (L + 5 + t) = 8) ∧ (∀ t, t < 20 → gR μ (L + 2) t = some (L + 13 + t) ∧ mK μ (L + 13 + t) = 0) ∧
  (∀ t, t < 3 → gR μ (L + 3) t = some (L + 33 + 2 * t) ∧ mK μ (L + 33 + 2 * t) = 2 ∧ gR μ (L + 4) t = some (L + 39 + t) ∧ mK μ (L + 39 + t) = 5 ∧ gR μ (L + 33 + 2 * t) 0 = some (L + 34 + 2 * t) ∧ mK μ (L + 34 + 2 * t) = 21 ∧ mZ μ (L + 34 + 2 * t) = 4) := by
  obtain ⟨h, h0, h1, h2, h3, h4⟩ := h
  refine ⟨⟨h.2, h0.1, h1.1, h2.1, h3.1, h0.2.2.1, h1.2.2.1, h2.2.2.1, h3.2.2.1, h0.2.2.2.1, h1.2.2.2.1, h2.2.2.2.1, h3.2.2.2.1⟩, fun t ht => ?_, fun t ht => ?_, fun t ht => ?_⟩
  · have q := h0.2.2.2.2.1 t ht
    exact ⟨q.1, q.2.2⟩
  · have q := h1.2.2.2.2.1 t ht
    exact ⟨q.1, q.2.2⟩
  · have q := h2.2.2.2.2.1 t ht
    have r := h3.2.2.2.2.1 t ht
    have w := h4 t ht
    exact ⟨q.1, q.2.2, r.1, r.2.2, w.1, w.2.1, w.2.2⟩
/-! plain forms -/
theorem q0 : (0 : Int32) = nI 0 := by decide +kernel
theorem q1 : (1 : Int32) = nI 1 := by decide +kernel
theorem q2 : (2 : Int32) = nI 2 := by decide +kernel
theorem q3 : (3 : Int32) = nI 3 := by decide +kernel
theorem q4 : (4 : Int32) = nI 4 := by decide +kernel
theorem q5 : (5 : Int32) = nI 5 := by decide +kernel
theorem q6 : (6 : Int32) = nI 6 := by decide +kernel
theorem q10 : (10 : Int32) = nI 10 := by decide +kernel
theorem q100 : (100 : Int32) = nI 100 := by decide +kernel
theorem br_Tr (A B : Prop) : ax_br True A B = A := br_T trivial
theorem br_Fa (A B : Prop) : ax_br False A B = B := br_F (fun h => h)
theorem exi (e : Int32) (K : Int32 → Prop) : (∃ v : Int32, some (ax_i e) = some (ax_i v) ∧ K v) = K e := propext ⟨fun ⟨v, h, k⟩ => by cases h; exact k, fun k => ⟨e, rfl, k⟩⟩
theorem exl (e : Int64) (K : Int64 → Prop) : (∃ v : Int64, some (ax_l e) = some (ax_l v) ∧ K v) = K e := propext ⟨fun ⟨v, h, k⟩ => by cases h; exact k, fun k => ⟨e, rfl, k⟩⟩
theorem exv (K : Prop) : ((none : Option ax_V) = none ∧ K) = K := propext ⟨fun h => h.2, fun h => ⟨rfl, h⟩⟩
theorem bI_q0 (b : Bool) : (bI b = nI 0) = (b = false) := by cases b <;> exact propext (by decide +kernel)
theorem bI_q1 (b : Bool) : (bI b = nI 1) = (b = true) := by cases b <;> exact propext (by decide +kernel)
theorem lt0 {n : Nat} (h : n < 2 ^ 31) : (nI n < nI 0) = False := eq_false (nI_pos h)
theorem bI_nI (b : Bool) : bI b = nI b.toNat := by cases b <;> rfl
theorem ge64 {x : Nat} (h : 64 ≤ x) : (64 ≤ x) = True := eq_true h
theorem nI_subI {x y : Nat} (hx : x < 2 ^ 31) (hy : y < 2 ^ 31) : (nI x - nI y).toInt = (x : Int) - (y : Int) := by
  rw [Int32.toInt_sub, nI_toInt hx, nI_toInt hy]
  apply Int.bmod_eq_of_le <;> omega
theorem max_sub {lo x y : Nat} (hl : lo < 2 ^ 31) (hx : x < 2 ^ 31) (hy : y < 2 ^ 31) : (if nI lo < nI x - nI y then nI x - nI y else nI lo) = nI (max lo (x - y)) := by
  have h : nI lo < nI x - nI y ↔ lo < x - y := by
    rw [Int32.lt_iff_toInt_lt, nI_subI hx hy, nI_toInt hl]; omega
  by_cases hh : lo < x - y
  · rw [if_pos (h.mpr hh), nI_sub (by omega), Nat.max_eq_right (by omega)]
  · rw [if_neg (fun q => hh (h.mp q)), Nat.max_eq_left (by omega)]
theorem min_add {hi x : Nat} (hl : hi < 2 ^ 31) (hx : x < 2 ^ 31) : (if nI x < nI hi then nI x else nI hi) = nI (min hi x) := by
  by_cases hh : x < hi
  · rw [if_pos ((nI_ltI hx hl).mpr hh), Nat.min_eq_right (by omega)]
  · rw [if_neg (fun q => hh ((nI_ltI hx hl).mp q)), Nat.min_eq_left (by omega)]
theorem sub_cmp {x y z : Nat} (hx : x ≤ 999) (hy : y ≤ 999) (hz : z < 2 ^ 31) : (nI x - nI y) * nI 100 ≤ nI z ↔ ¬ z < (x - y) * 100 := by
  rw [Int32.le_iff_toInt_le, Int32.toInt_mul, nI_subI (by omega) (by omega), nI_toInt (by omega), nI_toInt (by omega), Int.bmod_eq_of_le (by omega) (by omega)]
  omega
theorem sub_cmp' {x y z : Nat} (hx : x ≤ 999) (hy : y ≤ 999) (hz : z < 2 ^ 31) : nI 100 * (nI x - nI y) ≤ nI z ↔ ¬ z < (x - y) * 100 := by
  rw [Int32.mul_comm]; exact sub_cmp hx hy hz
theorem q999 : (999 : Int32) = nI 999 := by decide +kernel
theorem q200 : (200 : Int32) = nI 200 := by decide +kernel
theorem min_n {hi x : Nat} : (if x < hi then nI x else nI hi) = nI (min hi x) := by
  by_cases hh : x < hi
  · rw [if_pos hh, Nat.min_eq_right (by omega)]
  · rw [if_neg hh, Nat.min_eq_left (by omega)]
