/-! the state that both sides show: tape, its length, trouble, fault, place, land -/
abbrev St : Type := (Nat → Nat) × Nat × Nat × Nat × Nat × Option Ld
abbrev tp (st : St) : Nat → Nat := st.1
abbrev ln (st : St) : Nat := st.2.1
abbrev tro (st : St) : Nat := st.2.2.1
abbrev fau (st : St) : Nat := st.2.2.2.1
abbrev pla (st : St) : Nat := st.2.2.2.2.1
abbrev lan (st : St) : Option Ld := st.2.2.2.2.2
def sT (st : St) (t : Nat) : St := (st.1, st.2.1, t, st.2.2.2)
def cn (st : St) (k : Nat) : Nat := match lan st with
  | none => 0
  | some a => a.1 k
def ldo (st : St) : Ld := (lan st).getD (fun _ => 0, fun _ _ => 0, fun _ _ => 0, fun _ _ => 0, fun _ _ => 0)
def cl (x : Int32) : Nat := Int32.toNatClampNeg x
theorem cl_nI {j : Nat} (h : j < 2 ^ 31) : cl (nI j) = j := nI_clamp h
theorem cn_t {st : St} {j k : Nat} (h : j < cn st k) : lan st = some (ldo st) := by
  unfold cn at h
  unfold ldo
  cases hl : lan st with
  | none => rw [hl] at h; exact absurd h (Nat.not_lt_zero _)
  | some a => rfl
theorem cn_a {st : St} {a : Ld} (h : lan st = some a) (k : Nat) : cn st k = a.1 k := by unfold cn; rw [h]
theorem ldo_a {st : St} {a : Ld} (h : lan st = some a) : ldo st = a := by unfold ldo; rw [h]; rfl
/-- what a call of one side leaves as it was -/
def Out (lo hi : Nat) (μ μ' : ax_M) : Prop := μ'.1 = μ.1 ∧ ∀ b, b < lo ∨ hi ≤ b → μ'.2.1 b = μ.2.1 b ∧ ∀ k, gI μ' b k = gI μ b k ∧ gL μ' b k = gL μ b k ∧ gR μ' b k = gR μ b k
theorem Out.refl (lo hi : Nat) (μ : ax_M) : Out lo hi μ μ := ⟨rfl, fun _ _ => ⟨rfl, fun _ => ⟨rfl, rfl, rfl⟩⟩⟩
theorem Out.trans {lo hi : Nat} {μ μ1 μ2 : ax_M} (h : Out lo hi μ μ1) (k : Out lo hi μ1 μ2) : Out lo hi μ μ2 :=
  ⟨k.1.trans h.1, fun b hb => ⟨(k.2 b hb).1.trans (h.2 b hb).1, fun j => ⟨((k.2 b hb).2 j).1.trans ((h.2 b hb).2 j).1, ((k.2 b hb).2 j).2.1.trans ((h.2 b hb).2 j).2.1, ((k.2 b hb).2 j).2.2.trans ((h.2 b hb).2 j).2.2⟩⟩⟩
theorem Out.I {lo hi : Nat} {μ μ1 : ax_M} (h : Out lo hi μ μ1) {a k : Nat} {v : Int32} (ha : lo ≤ a) (hb : a < hi) : Out lo hi μ (sI μ1 a k v) :=
  ⟨h.1, fun b hb' => ⟨(h.2 b hb').1, fun j => ⟨by rw [iI_n (by omega)]; exact ((h.2 b hb').2 j).1, ((h.2 b hb').2 j).2⟩⟩⟩
theorem Out.R {lo hi : Nat} {μ μ1 : ax_M} (h : Out lo hi μ μ1) {a k : Nat} {v : Option Nat} (ha : lo ≤ a) (hb : a < hi) : Out lo hi μ (sR μ1 a k v) :=
  ⟨h.1, fun b hb' => ⟨(h.2 b hb').1, fun j => ⟨((h.2 b hb').2 j).1, ((h.2 b hb').2 j).2.1, by rw [rR_n (by omega)]; exact ((h.2 b hb').2 j).2.2⟩⟩⟩
theorem Out.L {lo hi : Nat} {μ μ1 : ax_M} (h : Out lo hi μ μ1) {a k : Nat} {v : Int64} (ha : lo ≤ a) (hb : a < hi) : Out lo hi μ (sL μ1 a k v) :=
  ⟨h.1, fun b hb' => ⟨(h.2 b hb').1, fun j => ⟨((h.2 b hb').2 j).1, by rw [lL_n (by omega)]; exact ((h.2 b hb').2 j).2.1, ((h.2 b hb').2 j).2.2⟩⟩⟩
theorem Out.F {lo hi : Nat} {μ μ1 μ2 : ax_M} {P : Nat → Nat → Prop} (h : Out lo hi μ μ1) (f : Fr P μ1 μ2) (hp : ∀ b k, P b k → lo ≤ b ∧ b < hi) : Out lo hi μ μ2 :=
  ⟨f.1.trans h.1, fun b hb' => ⟨by rw [f.2.1]; exact (h.2 b hb').1, fun j => ⟨by rw [f.I (fun q => by have := hp b j q; omega)]; exact ((h.2 b hb').2 j).1, by rw [f.L]; exact ((h.2 b hb').2 j).2.1, by rw [f.R]; exact ((h.2 b hb').2 j).2.2⟩⟩⟩
/-! the class's memory -/
def isReader (μ : ax_M) : Prop := mK μ 150 = 6 ∧ gR μ 150 0 = some 155 ∧ gR μ 150 1 = some 151 ∧ mK μ 151 = 4 ∧ gR μ 151 0 = some 152 ∧ gR μ 151 1 = some 153 ∧ gR μ 151 2 = some 154 ∧ mK μ 152 = 22 ∧ mZ μ 152 = 18 ∧ mK μ 153 = 21 ∧ mZ μ 153 = 18 ∧ mK μ 154 = 21 ∧ mZ μ 154 = 18 ∧ mK μ 155 = 9 ∧ gR μ 155 0 = some 65
def isTop (μ : ax_M) (L M : Nat) : Prop := mK μ 64 = 10 ∧ gR μ 64 0 = some 65 ∧ gR μ 64 1 = some L ∧ gR μ 64 2 = some M ∧ gR μ 64 3 = some 150 ∧ gR μ 64 4 = some 156 ∧ gR μ 64 5 = some 237 ∧ gR μ 64 6 = some 244 ∧ gR μ 64 7 = some 325 ∧ mK μ 65 = 21 ∧ mZ μ 65 = 900
def XS (μ : ax_M) (L M : Nat) : Prop := isTop μ L M ∧ ((L = 66 ∧ M = 108) ∨ (L = 108 ∧ M = 66)) ∧ isReader μ ∧ isLand μ L ∧ isLand μ M ∧ isCourse μ 156 ∧ isTally μ 237 156 ∧ isCourse μ 244 ∧ isTally μ 325 244
theorem XS.fr {P : Nat → Nat → Prop} {μ μ1 : ax_M} {L M : Nat} (hc : XS μ L M) (h : Fr P μ μ1) : XS μ1 L M := by
  obtain ⟨n, kz, i, lo, r⟩ := μ
  obtain ⟨n1, kz1, i1, lo1, r1⟩ := μ1
  obtain ⟨-, rfl, -, rfl, -⟩ : n1 = n ∧ kz1 = kz ∧ lo1 = lo ∧ r1 = r ∧ _ := h
  exact hc
def XN (μ : ax_M) (st : St) (L : Nat) : Prop := (gI μ 64 8 = nI (ln st) ∧ gI μ 64 9 = nI (tro st) ∧ gI μ 64 10 = nI (fau st)) ∧ (ln st ≤ 900 ∧ tro st ≤ 6) ∧ (tro st = 4 → gI μ 64 11 = nI (pla st)) ∧ (∀ i, i < ln st → gI μ 65 i = nI (tp st i) ∧ tp st i < 256) ∧ (∀ k, k < 7 → gI μ L (4 + k) = nI (cn st k) ∧ cn st k ≤ 20) ∧ ∀ a, lan st = some a → TN μ 237 156 L a
def XW (μ : ax_M) (st : St) (L M : Nat) : Prop := XS μ L M ∧ XN μ st L
theorem XW.all {μ : ax_M} {st : St} {L M : Nat} (h : XW μ st L M) : (mK μ 64 = 10 ∧ gR μ 64 0 = some 65 ∧ gR μ 64 1 = some L ∧ gR μ 64 2 = some M ∧ gR μ 64 3 = some 150 ∧ gR μ 64 4 = some 156 ∧ gR μ 64 5 = some 237 ∧ gR μ 64 6 = some 244 ∧ gR μ 64 7 = some 325 ∧ mK μ 65 = 21 ∧ mZ μ 65 = 900) ∧ (mK μ 156 = 1 ∧ mK μ 237 = 7 ∧ mK μ 244 = 1 ∧ mK μ 325 = 7 ∧ mK μ L = 3 ∧ mK μ M = 3) ∧ (gI μ 64 8 = nI (ln st) ∧ gI μ 64 9 = nI (tro st) ∧ gI μ 64 10 = nI (fau st)) ∧ (gI μ L 4 = nI (cn st 0) ∧ gI μ L 5 = nI (cn st 1) ∧ gI μ L 6 = nI (cn st 2) ∧ gI μ L 7 = nI (cn st 3) ∧ gI μ L 8 = nI (cn st 4) ∧ gI μ L 9 = nI (cn st 5) ∧ gI μ L 10 = nI (cn st 6)) := by
  obtain ⟨⟨h1, h2, h3, h4, h5, h6, h7, h8, h9⟩, g1, g2, g3, g4, g5, g6⟩ := h
  exact ⟨h1, ⟨h6.k, h7.1.2.1, h8.k, h9.1.2.1, h4.k, h5.k⟩, g1, (g5 0 (by omega)).1, (g5 1 (by omega)).1, (g5 2 (by omega)).1, (g5 3 (by omega)).1, (g5 4 (by omega)).1, (g5 5 (by omega)).1, (g5 6 (by omega)).1⟩
theorem XW.bd {μ : ax_M} {st : St} {L M : Nat} (h : XW μ st L M) : (cn st 0 ≤ 20 ∧ cn st 1 ≤ 20 ∧ cn st 2 ≤ 20 ∧ cn st 3 ≤ 20 ∧ cn st 4 ≤ 20 ∧ cn st 5 ≤ 20 ∧ cn st 6 ≤ 20) ∧ ln st ≤ 900 ∧ tro st ≤ 6 ∧ ((L = 66 ∧ M = 108) ∨ (L = 108 ∧ M = 66)) := by
  obtain ⟨⟨h1, h2, h3, h4, h5, h6, h7, h8, h9⟩, g1, g2, g3, g4, g5, g6⟩ := h
  exact ⟨⟨(g5 0 (by omega)).2, (g5 1 (by omega)).2, (g5 2 (by omega)).2, (g5 3 (by omega)).2, (g5 4 (by omega)).2, (g5 5 (by omega)).2, (g5 6 (by omega)).2⟩, g2.1, g2.2, h2⟩
theorem TN.fr {P : Nat → Nat → Prop} {μ μ1 : ax_M} {y c L : Nat} {a : Ld} (h : TN μ y c L a) (f : Fr P μ μ1) (hp : ∀ b k, P b k → (b < c ∨ c + 81 ≤ b) ∧ (b < L ∨ L + 42 ≤ b) ∧ (b < y + 2 ∨ y + 5 ≤ b)) : TN μ1 y c L a := by
  have hb := h.bd
  refine ⟨h.1.fr f (fun b k q => by have := hp b k q; omega), fun o m ho hm => ?_⟩
  rw [f.I (fun q => by have := hp _ _ q; omega)]
  exact h.2 o m ho hm
theorem XW.fr {P : Nat → Nat → Prop} {μ μ1 : ax_M} {st : St} {L M : Nat} (h : XW μ st L M) (f : Fr P μ μ1) (hp : ∀ b k, P b k → (b < 64 ∨ 332 ≤ b) ∨ (M ≤ b ∧ b < M + 42) ∨ (244 ≤ b ∧ b < 332)) : XW μ1 st L M := by
  have hb := h.bd
  obtain ⟨hs, g1, g2, g3, g4, g5, g6⟩ := h
  refine ⟨hs.fr f, ?_, g2, fun e => ?_, fun i hi => ?_, fun k hk => ?_, fun a ha => (g6 a ha).fr f (fun b k q => by have := hp b k q; omega)⟩
  · rw [f.I (fun q => by have := hp _ _ q; omega), f.I (fun q => by have := hp _ _ q; omega), f.I (fun q => by have := hp _ _ q; omega)]
    exact g1
  · rw [f.I (fun q => by have := hp _ _ q; omega)]
    exact g3 e
  · rw [f.I (fun q => by have := hp _ _ q; omega)]
    exact g4 i hi
  · rw [f.I (fun q => by have := hp _ _ q; omega)]
    exact g5 k hk
theorem XW.tr {μ : ax_M} {st : St} {L M t : Nat} (h : XW μ st L M) (ht : t ≤ 6) (h4 : t ≠ 4) : XW (sI μ 64 9 (nI t)) (sT st t) L M := by
  have hb := h.bd
  obtain ⟨hs, g1, g2, g3, g4, g5, g6⟩ := h
  have f : Fr (fun b k => b = 64 ∧ k = 9) μ (sI μ 64 9 (nI t)) := (Fr.refl _ _).put ⟨rfl, rfl⟩
  refine ⟨hs.fr f, ?_, ⟨g2.1, ht⟩, fun e => absurd e h4, fun i hi => ?_, fun k hk => ?_, fun a ha => (g6 a ha).fr f (fun b k q => by obtain ⟨q, -⟩ := q; omega)⟩
  · exact ⟨by rw [f.I (by omega)]; exact g1.1, iI_s _ _ _ _, by rw [f.I (by omega)]; exact g1.2.2⟩
  · rw [f.I (by omega)]
    exact g4 i hi
  · rw [f.I (by omega)]
    exact g5 k hk
def X (μ : ax_M) (st : St) : Prop := ∃ L M, XW μ st L M
def inL (x : Int32) (n : Nat) : Bool := decide (¬ x < nI 1) && decide (x < nI n)
theorem inL_t {x : Int32} {n : Nat} (hn : n < 2 ^ 31) (h : inL x n = true) : ∃ j, 1 ≤ j ∧ j < n ∧ x = nI j := by
  simp only [inL, Bool.and_eq_true, decide_eq_true_eq] at h
  have h0 : ¬ x < 0 := by
    intro h2
    apply h.1
    rw [Int32.lt_iff_toInt_lt] at h2 ⊢
    have : (0 : Int32).toInt = 0 := by decide
    have h1 : (nI 1).toInt = 1 := by decide +kernel
    omega
  obtain ⟨j, hj, rfl⟩ := nI_of h0
  have h1 := h.1
  rw [nI_ltI hj (by omega)] at h1
  exact ⟨j, by omega, (nI_ltI hj hn).mp h.2, rfl⟩
section E1
variable {l : Launch} {G : ax_G} {μ : ax_M} {L M : Nat} {st : St}
theorem inN_br {x : Int32} {n : Nat} {A B : Prop} (t : inN x n = true → A) (f : inN x n = false → B) : ax_br (x < nI 0) B (ax_br (x < nI n) A B) := by
  refine ax_brc (fun h => f ?_) (fun h => ax_brc (fun h2 => t ?_) (fun h2 => f ?_))
  · unfold inN; rw [q0, decide_eq_false (fun q => q h)]; rfl
  · unfold inN; rw [q0, decide_eq_true h, decide_eq_true h2]; rfl
  · unfold inN; rw [decide_eq_false h2, Bool.and_false]
theorem d20 {x : Int32} {n : Nat} {K : Int32 → ax_M → Prop} (hk : mK μ L = 3) (hn : gI μ L 5 = nI n) (q : K (bI (inN x n)) μ) : ax_CI l G 20 [ax_r (some L), ax_i x] μ K := by
  refine ax_Ct.of (by decide) (Nat.le_of_ble_eq_true rfl) (sg20_0 l G _ L _ _ ?_)
  try simp (disch := omega) only [hk, hn, wr_s, in_nI, clN, ti_z, ti_l, true_and, and_true, kI, zI, rI, kL, zL, rL, kR, zR, nnI, nnL, nnR, iL, iR, lI, lR, exi, exl, exv, eq_self, nI_add, nI_mul, nI_sub, nI_ltI, nI_leI, nI_eq, q0, q1, q2, q3, q4, q5, q6, q10, q100, br_Tr, br_Fa, iI_s, iI_n, bI_q0, bI_q1, or_true, true_or, not_true_eq_false, not_false_eq_true, nI_l, ge64, Nat.lt_irrefl, Nat.add_sub_cancel, Nat.not_lt_zero, lN_0, lN_1e4, lN_1e6, lN_1e3, lN_add, lN_mul, lN_ltI, lN_leI, lN_eqI, lN_i, lcE, lcLe, lcLt, lN_div]
  exact inN_br (fun h => by rw [h] at q; exact q) (fun h => by rw [h] at q; exact q)
theorem d21 {x : Int32} {n : Nat} {K : Int32 → ax_M → Prop} (hk : mK μ L = 3) (hn : gI μ L 9 = nI n) (q : K (bI (inN x n)) μ) : ax_CI l G 21 [ax_r (some L), ax_i x] μ K := by
  refine ax_Ct.of (by decide) (Nat.le_of_ble_eq_true rfl) (sg21_0 l G _ L _ _ ?_)
  try simp (disch := omega) only [hk, hn, wr_s, in_nI, clN, ti_z, ti_l, true_and, and_true, kI, zI, rI, kL, zL, rL, kR, zR, nnI, nnL, nnR, iL, iR, lI, lR, exi, exl, exv, eq_self, nI_add, nI_mul, nI_sub, nI_ltI, nI_leI, nI_eq, q0, q1, q2, q3, q4, q5, q6, q10, q100, br_Tr, br_Fa, iI_s, iI_n, bI_q0, bI_q1, or_true, true_or, not_true_eq_false, not_false_eq_true, nI_l, ge64, Nat.lt_irrefl, Nat.add_sub_cancel, Nat.not_lt_zero, lN_0, lN_1e4, lN_1e6, lN_1e3, lN_add, lN_mul, lN_ltI, lN_leI, lN_eqI, lN_i, lcE, lcLe, lcLt, lN_div]
  exact inN_br (fun h => by rw [h] at q; exact q) (fun h => by rw [h] at q; exact q)
theorem d22 {x : Int32} {n : Nat} {K : Int32 → ax_M → Prop} (hk : mK μ L = 3) (hn : gI μ L 4 = nI n) (q : K (bI (inL x n)) μ) : ax_CI l G 22 [ax_r (some L), ax_i x] μ K := by
  refine ax_Ct.of (by decide) (Nat.le_of_ble_eq_true rfl) (sg22_0 l G _ L _ _ ?_)
  try simp (disch := omega) only [hk, hn, wr_s, in_nI, clN, ti_z, ti_l, true_and, and_true, kI, zI, rI, kL, zL, rL, kR, zR, nnI, nnL, nnR, iL, iR, lI, lR, exi, exl, exv, eq_self, nI_add, nI_mul, nI_sub, nI_ltI, nI_leI, nI_eq, q0, q1, q2, q3, q4, q5, q6, q10, q100, br_Tr, br_Fa, iI_s, iI_n, bI_q0, bI_q1, or_true, true_or, not_true_eq_false, not_false_eq_true, nI_l, ge64, Nat.lt_irrefl, Nat.add_sub_cancel, Nat.not_lt_zero, lN_0, lN_1e4, lN_1e6, lN_1e3, lN_add, lN_mul, lN_ltI, lN_leI, lN_eqI, lN_i, lcE, lcLe, lcLt, lN_div]
  unfold inL at q
  refine ax_brc (fun h => ?_) (fun h => ax_brc (fun h2 => ?_) (fun h2 => ?_))
  · rw [decide_eq_false (fun q => q h)] at q; exact q
  · rw [decide_eq_true h, decide_eq_true h2] at q; exact q
  · rw [decide_eq_false h2, Bool.and_false] at q; exact q
theorem d23 {x : Int32} {n : Nat} {K : Int32 → ax_M → Prop} (hk : mK μ L = 3) (hn : gI μ L 4 = nI n) (q : K (bI (inN x n)) μ) : ax_CI l G 23 [ax_r (some L), ax_i x] μ K := by
  refine ax_Ct.of (by decide) (Nat.le_of_ble_eq_true rfl) (sg23_0 l G _ L _ _ ?_)
  try simp (disch := omega) only [hk, hn, wr_s, in_nI, clN, ti_z, ti_l, true_and, and_true, kI, zI, rI, kL, zL, rL, kR, zR, nnI, nnL, nnR, iL, iR, lI, lR, exi, exl, exv, eq_self, nI_add, nI_mul, nI_sub, nI_ltI, nI_leI, nI_eq, q0, q1, q2, q3, q4, q5, q6, q10, q100, br_Tr, br_Fa, iI_s, iI_n, bI_q0, bI_q1, or_true, true_or, not_true_eq_false, not_false_eq_true, nI_l, ge64, Nat.lt_irrefl, Nat.add_sub_cancel, Nat.not_lt_zero, lN_0, lN_1e4, lN_1e6, lN_1e3, lN_add, lN_mul, lN_ltI, lN_leI, lN_eqI, lN_i, lcE, lcLe, lcLt, lN_div]
  exact inN_br (fun h => by rw [h] at q; exact q) (fun h => by rw [h] at q; exact q)
theorem d24 {x : Int32} {n : Nat} {K : Int32 → ax_M → Prop} (hk : mK μ L = 3) (hn : gI μ L 10 = nI n) (q : K (bI (inN x n)) μ) : ax_CI l G 24 [ax_r (some L), ax_i x] μ K := by
  refine ax_Ct.of (by decide) (Nat.le_of_ble_eq_true rfl) (sg24_0 l G _ L _ _ ?_)
  try simp (disch := omega) only [hk, hn, wr_s, in_nI, clN, ti_z, ti_l, true_and, and_true, kI, zI, rI, kL, zL, rL, kR, zR, nnI, nnL, nnR, iL, iR, lI, lR, exi, exl, exv, eq_self, nI_add, nI_mul, nI_sub, nI_ltI, nI_leI, nI_eq, q0, q1, q2, q3, q4, q5, q6, q10, q100, br_Tr, br_Fa, iI_s, iI_n, bI_q0, bI_q1, or_true, true_or, not_true_eq_false, not_false_eq_true, nI_l, ge64, Nat.lt_irrefl, Nat.add_sub_cancel, Nat.not_lt_zero, lN_0, lN_1e4, lN_1e6, lN_1e3, lN_add, lN_mul, lN_ltI, lN_leI, lN_eqI, lN_i, lcE, lcLe, lcLt, lN_div]
  exact inN_br (fun h => by rw [h] at q; exact q) (fun h => by rw [h] at q; exact q)
theorem d25 {x : Int32} {n : Nat} {K : Int32 → ax_M → Prop} (hk : mK μ L = 3) (hn : gI μ L 6 = nI n) (q : K (bI (inN x n)) μ) : ax_CI l G 25 [ax_r (some L), ax_i x] μ K := by
  refine ax_Ct.of (by decide) (Nat.le_of_ble_eq_true rfl) (sg25_0 l G _ L _ _ ?_)
  try simp (disch := omega) only [hk, hn, wr_s, in_nI, clN, ti_z, ti_l, true_and, and_true, kI, zI, rI, kL, zL, rL, kR, zR, nnI, nnL, nnR, iL, iR, lI, lR, exi, exl, exv, eq_self, nI_add, nI_mul, nI_sub, nI_ltI, nI_leI, nI_eq, q0, q1, q2, q3, q4, q5, q6, q10, q100, br_Tr, br_Fa, iI_s, iI_n, bI_q0, bI_q1, or_true, true_or, not_true_eq_false, not_false_eq_true, nI_l, ge64, Nat.lt_irrefl, Nat.add_sub_cancel, Nat.not_lt_zero, lN_0, lN_1e4, lN_1e6, lN_1e3, lN_add, lN_mul, lN_ltI, lN_leI, lN_eqI, lN_i, lcE, lcLe, lcLt, lN_div]
  exact inN_br (fun h => by rw [h] at q; exact q) (fun h => by rw [h] at q; exact q)
theorem d3 {b : Bool} {K : Int32 → ax_M → Prop} (hk : mK μ 64 = 10) (q : K (bI b) (sI μ 64 9 (nI (!b).toNat))) : ax_CI l G 3 [ax_r (some 64), ax_i (bI b)] μ K := by
  refine ax_Ct.of (by decide) (Nat.le_of_ble_eq_true rfl) (sg3_0 l G _ 64 _ _ ?_)
  try simp (disch := omega) only [hk, wr_s, in_nI, clN, ti_z, ti_l, true_and, and_true, kI, zI, rI, kL, zL, rL, kR, zR, nnI, nnL, nnR, iL, iR, lI, lR, exi, exl, exv, eq_self, nI_add, nI_mul, nI_sub, nI_ltI, nI_leI, nI_eq, q0, q1, q2, q3, q4, q5, q6, q10, q100, br_Tr, br_Fa, iI_s, iI_n, bI_q0, bI_q1, or_true, true_or, not_true_eq_false, not_false_eq_true, nI_l, ge64, Nat.lt_irrefl, Nat.add_sub_cancel, Nat.not_lt_zero, lN_0, lN_1e4, lN_1e6, lN_1e3, lN_add, lN_mul, lN_ltI, lN_leI, lN_eqI, lN_i, lcE, lcLe, lcLt, lN_div]
  cases b
  · exact ax_brt rfl ⟨Or.inl rfl, q⟩
  · exact ax_brf (by decide) ⟨Or.inr rfl, q⟩
theorem d5 {x : Int32} {K : Int32 → ax_M → Prop} (hk : mK μ 64 = 10) (q : K (-nI 1) (sI μ 64 9 x)) : ax_CI l G 5 [ax_r (some 64), ax_i x] μ K := by
  refine ax_Ct.of (by decide) (Nat.le_of_ble_eq_true rfl) (sg5_0 l G _ 64 _ _ ?_)
  try simp (disch := omega) only [hk, wr_s, in_nI, clN, ti_z, ti_l, true_and, and_true, kI, zI, rI, kL, zL, rL, kR, zR, nnI, nnL, nnR, iL, iR, lI, lR, exi, exl, exv, eq_self, nI_add, nI_mul, nI_sub, nI_ltI, nI_leI, nI_eq, q0, q1, q2, q3, q4, q5, q6, q10, q100, br_Tr, br_Fa, iI_s, iI_n, bI_q0, bI_q1, or_true, true_or, not_true_eq_false, not_false_eq_true, nI_l, ge64, Nat.lt_irrefl, Nat.add_sub_cancel, Nat.not_lt_zero, lN_0, lN_1e4, lN_1e6, lN_1e3, lN_add, lN_mul, lN_ltI, lN_leI, lN_eqI, lN_i, lcE, lcLe, lcLt, lN_div]
  exact q
theorem d83 {x y : Int32} {K : Int32 → ax_M → Prop} (hx : XW μ st L M) (q : K (bI (inN x (cn st 5) && inN y (cn st 0))) μ) : ax_CI l G 83 [ax_r (some 64), ax_i x, ax_i y] μ K := by
  refine ax_Ct.of (by decide) (Nat.le_of_ble_eq_true rfl) (sg83_0 l G _ 64 _ _ _ ?_)
  try simp (disch := omega) only [hx.all, wr_s, in_nI, clN, ti_z, ti_l, true_and, and_true, kI, zI, rI, kL, zL, rL, kR, zR, nnI, nnL, nnR, iL, iR, lI, lR, exi, exl, exv, eq_self, nI_add, nI_mul, nI_sub, nI_ltI, nI_leI, nI_eq, q0, q1, q2, q3, q4, q5, q6, q10, q100, br_Tr, br_Fa, iI_s, iI_n, bI_q0, bI_q1, or_true, true_or, not_true_eq_false, not_false_eq_true, nI_l, ge64, Nat.lt_irrefl, Nat.add_sub_cancel, Nat.not_lt_zero, lN_0, lN_1e4, lN_1e6, lN_1e3, lN_add, lN_mul, lN_ltI, lN_leI, lN_eqI, lN_i, lcE, lcLe, lcLt, lN_div]
  refine d21 hx.all.2.1.2.2.2.2.1 hx.all.2.2.2.2.2.2.2.2.1 ?_
  try simp (disch := omega) only [hx.all, wr_s, in_nI, clN, ti_z, ti_l, true_and, and_true, kI, zI, rI, kL, zL, rL, kR, zR, nnI, nnL, nnR, iL, iR, lI, lR, exi, exl, exv, eq_self, nI_add, nI_mul, nI_sub, nI_ltI, nI_leI, nI_eq, q0, q1, q2, q3, q4, q5, q6, q10, q100, br_Tr, br_Fa, iI_s, iI_n, bI_q0, bI_q1, or_true, true_or, not_true_eq_false, not_false_eq_true, nI_l, ge64, Nat.lt_irrefl, Nat.add_sub_cancel, Nat.not_lt_zero, lN_0, lN_1e4, lN_1e6, lN_1e3, lN_add, lN_mul, lN_ltI, lN_leI, lN_eqI, lN_i, lcE, lcLe, lcLt, lN_div]
  cases h1 : inN x (cn st 5)
  · rw [h1] at q; exact ax_brt rfl q
  · rw [h1] at q
    refine ax_brf (by decide) ?_
    refine d23 hx.all.2.1.2.2.2.2.1 hx.all.2.2.2.1 ?_
    try simp (disch := omega) only [hx.all, wr_s, in_nI, clN, ti_z, ti_l, true_and, and_true, kI, zI, rI, kL, zL, rL, kR, zR, nnI, nnL, nnR, iL, iR, lI, lR, exi, exl, exv, eq_self, nI_add, nI_mul, nI_sub, nI_ltI, nI_leI, nI_eq, q0, q1, q2, q3, q4, q5, q6, q10, q100, br_Tr, br_Fa, iI_s, iI_n, bI_q0, bI_q1, or_true, true_or, not_true_eq_false, not_false_eq_true, nI_l, ge64, Nat.lt_irrefl, Nat.add_sub_cancel, Nat.not_lt_zero, lN_0, lN_1e4, lN_1e6, lN_1e3, lN_add, lN_mul, lN_ltI, lN_leI, lN_eqI, lN_i, lcE, lcLe, lcLt, lN_div]
    cases h2 : inN y (cn st 0)
    · rw [h2] at q; exact ax_brt rfl q
    · rw [h2] at q; exact ax_brf (by decide) q
theorem d84 {x y : Int32} {K : Int32 → ax_M → Prop} (hx : XW μ st L M) (q : K (bI (inN x (cn st 6) && inN y (cn st 0))) μ) : ax_CI l G 84 [ax_r (some 64), ax_i x, ax_i y] μ K := by
  refine ax_Ct.of (by decide) (Nat.le_of_ble_eq_true rfl) (sg84_0 l G _ 64 _ _ _ ?_)
  try simp (disch := omega) only [hx.all, wr_s, in_nI, clN, ti_z, ti_l, true_and, and_true, kI, zI, rI, kL, zL, rL, kR, zR, nnI, nnL, nnR, iL, iR, lI, lR, exi, exl, exv, eq_self, nI_add, nI_mul, nI_sub, nI_ltI, nI_leI, nI_eq, q0, q1, q2, q3, q4, q5, q6, q10, q100, br_Tr, br_Fa, iI_s, iI_n, bI_q0, bI_q1, or_true, true_or, not_true_eq_false, not_false_eq_true, nI_l, ge64, Nat.lt_irrefl, Nat.add_sub_cancel, Nat.not_lt_zero, lN_0, lN_1e4, lN_1e6, lN_1e3, lN_add, lN_mul, lN_ltI, lN_leI, lN_eqI, lN_i, lcE, lcLe, lcLt, lN_div]
  refine d24 hx.all.2.1.2.2.2.2.1 hx.all.2.2.2.2.2.2.2.2.2 ?_
  try simp (disch := omega) only [hx.all, wr_s, in_nI, clN, ti_z, ti_l, true_and, and_true, kI, zI, rI, kL, zL, rL, kR, zR, nnI, nnL, nnR, iL, iR, lI, lR, exi, exl, exv, eq_self, nI_add, nI_mul, nI_sub, nI_ltI, nI_leI, nI_eq, q0, q1, q2, q3, q4, q5, q6, q10, q100, br_Tr, br_Fa, iI_s, iI_n, bI_q0, bI_q1, or_true, true_or, not_true_eq_false, not_false_eq_true, nI_l, ge64, Nat.lt_irrefl, Nat.add_sub_cancel, Nat.not_lt_zero, lN_0, lN_1e4, lN_1e6, lN_1e3, lN_add, lN_mul, lN_ltI, lN_leI, lN_eqI, lN_i, lcE, lcLe, lcLt, lN_div]
  cases h1 : inN x (cn st 6)
  · rw [h1] at q; exact ax_brt rfl q
  · rw [h1] at q
    refine ax_brf (by decide) ?_
    refine d23 hx.all.2.1.2.2.2.2.1 hx.all.2.2.2.1 ?_
    try simp (disch := omega) only [hx.all, wr_s, in_nI, clN, ti_z, ti_l, true_and, and_true, kI, zI, rI, kL, zL, rL, kR, zR, nnI, nnL, nnR, iL, iR, lI, lR, exi, exl, exv, eq_self, nI_add, nI_mul, nI_sub, nI_ltI, nI_leI, nI_eq, q0, q1, q2, q3, q4, q5, q6, q10, q100, br_Tr, br_Fa, iI_s, iI_n, bI_q0, bI_q1, or_true, true_or, not_true_eq_false, not_false_eq_true, nI_l, ge64, Nat.lt_irrefl, Nat.add_sub_cancel, Nat.not_lt_zero, lN_0, lN_1e4, lN_1e6, lN_1e3, lN_add, lN_mul, lN_ltI, lN_leI, lN_eqI, lN_i, lcE, lcLe, lcLt, lN_div]
    cases h2 : inN y (cn st 0)
    · rw [h2] at q; exact ax_brt rfl q
    · rw [h2] at q; exact ax_brf (by decide) q
/-! what a query answers, and the state behind it -/
def aQ (b : Bool) (st : St) (v : Int32) : Int32 × St := cond b (v, sT st 0) (-nI 1, sT st 1)
theorem XW.q {b : Bool} (hx : XW μ st L M) : XW (sI μ 64 9 (nI (!b).toNat)) (cond b (sT st 0) (sT st 1)) L M := by
  cases b
  · exact hx.tr (by decide) (by decide)
  · exact hx.tr (by decide) (by decide)
theorem XW.tn (hx : XW μ st L M) {j k : Nat} (h : j < cn st k) : TN μ 237 156 L (ldo st) ∧ cn st 0 = nMo (ldo st) ∧ cn st 1 = nGr (ldo st) ∧ cn st 2 = nTh (ldo st) ∧ cn st 3 = nCh (ldo st) ∧ cn st 4 = nTo (ldo st) ∧ cn st 5 = nHo (ldo st) ∧ cn st 6 = nOf (ldo st) := by
  have hl := cn_t h
  exact ⟨hx.2.2.2.2.2.2 _ hl, cn_a hl 0, cn_a hl 1, cn_a hl 2, cn_a hl 3, cn_a hl 4, cn_a hl 5, cn_a hl 6⟩
theorem TN.t9 {a : Ld} {v : Int32} (h : TN μ 237 156 L a) (hL : 65 ≤ L) : TN (sI μ 64 9 v) 237 156 L a :=
  h.fr ((Fr.refl (fun b k => b = 64 ∧ k = 9) μ).put ⟨rfl, rfl⟩) (fun b k q => by obtain ⟨q, -⟩ := q; omega)
def aSpent (st : St) (x y : Int32) : Int32 × St := aQ (inN x (cn st 5) && inN y (cn st 0)) st (nI (cst (ldo st) (cl x) (cl y) (cl y)))
theorem p167 {x y : Int32} {K : Int32 → ax_M → Prop} (hx : X μ st) (q : ∀ μ', Out 64 332 μ μ' → X μ' (aSpent st x y).2 → K (aSpent st x y).1 μ') : ax_CI l G 167 [ax_r (some 64), ax_i x, ax_i y] μ K := by
  obtain ⟨L, M, hx⟩ := hx
  have hb := hx.bd
  refine ax_Ct.of (by decide) (Nat.le_of_ble_eq_true rfl) (sg167_0 l G _ 64 _ _ _ ?_)
  try simp (disch := omega) only [hx.all, wr_s, in_nI, clN, ti_z, ti_l, true_and, and_true, kI, zI, rI, kL, zL, rL, kR, zR, nnI, nnL, nnR, iL, iR, lI, lR, exi, exl, exv, eq_self, nI_add, nI_mul, nI_sub, nI_ltI, nI_leI, nI_eq, q0, q1, q2, q3, q4, q5, q6, q10, q100, br_Tr, br_Fa, iI_s, iI_n, bI_q0, bI_q1, or_true, true_or, not_true_eq_false, not_false_eq_true, nI_l, ge64, Nat.lt_irrefl, Nat.add_sub_cancel, Nat.not_lt_zero, lN_0, lN_1e4, lN_1e6, lN_1e3, lN_add, lN_mul, lN_ltI, lN_leI, lN_eqI, lN_i, lcE, lcLe, lcLt, lN_div]
  refine d83 hx ?_
  try simp (disch := omega) only [hx.all, wr_s, in_nI, clN, ti_z, ti_l, true_and, and_true, kI, zI, rI, kL, zL, rL, kR, zR, nnI, nnL, nnR, iL, iR, lI, lR, exi, exl, exv, eq_self, nI_add, nI_mul, nI_sub, nI_ltI, nI_leI, nI_eq, q0, q1, q2, q3, q4, q5, q6, q10, q100, br_Tr, br_Fa, iI_s, iI_n, bI_q0, bI_q1, or_true, true_or, not_true_eq_false, not_false_eq_true, nI_l, ge64, Nat.lt_irrefl, Nat.add_sub_cancel, Nat.not_lt_zero, lN_0, lN_1e4, lN_1e6, lN_1e3, lN_add, lN_mul, lN_ltI, lN_leI, lN_eqI, lN_i, lcE, lcLe, lcLt, lN_div]
  refine d3 hx.all.1.1 ?_
  unfold aSpent aQ at q
  have hx' := hx.q (b := inN x (cn st 5) && inN y (cn st 0))
  try simp (disch := omega) only [hx.all, hx'.all, wr_s, in_nI, clN, ti_z, ti_l, true_and, and_true, kI, zI, rI, kL, zL, rL, kR, zR, nnI, nnL, nnR, iL, iR, lI, lR, exi, exl, exv, eq_self, nI_add, nI_mul, nI_sub, nI_ltI, nI_leI, nI_eq, q0, q1, q2, q3, q4, q5, q6, q10, q100, br_Tr, br_Fa, iI_s, iI_n, bI_q0, bI_q1, or_true, true_or, not_true_eq_false, not_false_eq_true, nI_l, ge64, Nat.lt_irrefl, Nat.add_sub_cancel, Nat.not_lt_zero, lN_0, lN_1e4, lN_1e6, lN_1e3, lN_add, lN_mul, lN_ltI, lN_leI, lN_eqI, lN_i, lcE, lcLe, lcLt, lN_div]
  cases hc : (inN x (cn st 5) && inN y (cn st 0))
  · rw [hc] at q hx'
    exact ax_brt rfl (q _ ((Out.refl _ _ _).I (by omega) (by omega)) ⟨L, M, hx'⟩)
  · rw [hc] at q hx'
    simp only [Bool.and_eq_true] at hc
    obtain ⟨h, hh, rfl⟩ := inN_t (by omega) hc.1
    obtain ⟨m, hm, rfl⟩ := inN_t (by omega) hc.2
    obtain ⟨ht, he⟩ := hx.tn hh
    rw [cl_nI (by omega), cl_nI (by omega)] at q
    refine ax_brf (by decide) ?_
    refine d139 (ht.t9 (by omega)).1.1.1 (by omega) (by omega) ?_
    try simp (disch := omega) only [wr_s, in_nI, clN, ti_z, ti_l, true_and, and_true, kI, zI, rI, kL, zL, rL, kR, zR, nnI, nnL, nnR, iL, iR, lI, lR, exi, exl, exv, eq_self, nI_add, nI_mul, nI_sub, nI_ltI, nI_leI, nI_eq, q0, q1, q2, q3, q4, q5, q6, q10, q100, br_Tr, br_Fa, iI_s, iI_n, bI_q0, bI_q1, or_true, true_or, not_true_eq_false, not_false_eq_true, nI_l, ge64, Nat.lt_irrefl, Nat.add_sub_cancel, Nat.not_lt_zero, lN_0, lN_1e4, lN_1e6, lN_1e3, lN_add, lN_mul, lN_ltI, lN_leI, lN_eqI, lN_i, lcE, lcLe, lcLt, lN_div]
    exact q _ ((Out.refl _ _ _).I (by omega) (by omega)) ⟨L, M, hx'⟩
end E1
