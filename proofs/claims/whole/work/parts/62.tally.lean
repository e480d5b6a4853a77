theorem lcE (x y : Int64) : (lg_cmp x y = nI 0) = (x = y) := propext (lg_cmp_eq x y)
theorem lcLe (x y : Int64) : (lg_cmp x y ≤ nI 0) = (x ≤ y) := propext (lg_cmp_le x y)
theorem lcLt (x y : Int64) : (lg_cmp x y < nI 0) = (x < y) := propext (lg_cmp_lt x y)
theorem q1e4 : (10000 : Int32) = nI 10000 := by decide +kernel
theorem abs_dif {p g : Nat} (hp : p < 2 ^ 31) (hg : g < 2 ^ 31) : (if nI 0 ≤ nI p - nI g then nI p - nI g else nI 0 - (nI p - nI g)) = nI (dif p g) := by
  have h0 : nI 0 ≤ nI p - nI g ↔ g ≤ p := by
    rw [Int32.le_iff_toInt_le, nI_subI hp hg, nI_toInt (by omega)]; omega
  unfold dif
  by_cases h : g ≤ p
  · rw [if_pos (h0.mpr h), nI_sub h]
    congr 1; omega
  · rw [if_neg (fun q => h (h0.mp q)), ← Int32.toInt_inj, Int32.toInt_sub, nI_subI hp hg, nI_toInt (by omega), nI_toInt (by omega), Int.bmod_eq_of_le (by omega) (by omega)]
    omega
/-- the offices' numbers over a course -/
def isTally (μ : ax_M) (y c : Nat) : Prop := (64 ≤ y ∧ mK μ y = 7 ∧ gR μ y 0 = some (y + 1) ∧ gR μ y 1 = some (y + 5) ∧ gR μ y 2 = some (y + 6) ∧ gR μ y 3 = some c ∧ mK μ (y + 1) = 28 ∧ mZ μ (y + 1) = 3 ∧ mK μ (y + 5) = 22 ∧ mZ μ (y + 5) = 8 ∧ mK μ (y + 6) = 22 ∧ mZ μ (y + 6) = 8) ∧ (∀ o, o < 3 → gR μ (y + 1) o = some (y + 2 + o) ∧ mK μ (y + 2 + o) = 21 ∧ mZ μ (y + 2 + o) = 12)
theorem isTally.all {μ : ax_M} {y c : Nat} (h : isTally μ y c) : (64 ≤ y ∧ mK μ y = 7 ∧ gR μ y 0 = some (y + 1) ∧ gR μ y 1 = some (y + 5) ∧ gR μ y 2 = some (y + 6) ∧ gR μ y 3 = some c ∧ mK μ (y + 1) = 28 ∧ mZ μ (y + 1) = 3 ∧ mK μ (y + 5) = 22 ∧ mZ μ (y + 5) = 8 ∧ mK μ (y + 6) = 22 ∧ mZ μ (y + 6) = 8) ∧ (∀ o, o < 3 → gR μ (y + 1) o = some (y + 2 + o) ∧ mK μ (y + 2 + o) = 21 ∧ mZ μ (y + 2 + o) = 12) := h
theorem isTally.fr {P : Nat → Nat → Prop} {μ μ1 : ax_M} {y c : Nat} (hc : isTally μ y c) (h : Fr P μ μ1) : isTally μ1 y c := by
  obtain ⟨n, kz, i, lo, r⟩ := μ
  obtain ⟨n1, kz1, i1, lo1, r1⟩ := μ1
  obtain ⟨-, rfl, -, rfl, -⟩ : n1 = n ∧ kz1 = kz ∧ lo1 = lo ∧ r1 = r ∧ _ := h
  exact hc
/-- a tally, its course, its land -/
def TA (μ : ax_M) (y c L : Nat) (a : Ld) : Prop := CA μ c L a ∧ isTally μ y c ∧ gR μ y 4 = some L ∧ (y + 7 ≤ c ∨ c + 81 ≤ y) ∧ (y + 7 ≤ L ∨ L + 42 ≤ y)
theorem TA.bd {μ : ax_M} {y c L : Nat} {a : Ld} (h : TA μ y c L a) : ((2 ≤ nMo a ∧ nMo a ≤ 12 ∧ nGr a ≤ 4 ∧ 1 ≤ nTh a ∧ nTh a ≤ 8 ∧ nCh a ≤ 20 ∧ nTo a ≤ nCh a ∧ 1 ≤ nHo a ∧ nHo a ≤ 3 ∧ 1 ≤ nOf a ∧ nOf a ≤ 3) ∧ 64 ≤ c ∧ 64 ≤ L) ∧ 64 ≤ y := ⟨h.1.bd, h.2.1.1.1⟩
theorem TA.fr {P : Nat → Nat → Prop} {μ μ1 : ax_M} {y c L : Nat} {a : Ld} (h : TA μ y c L a) (f : Fr P μ μ1) (hp : ∀ b k, P b k → (b < c ∨ c + 81 ≤ b) ∧ (b < L ∨ L + 42 ≤ b)) : TA μ1 y c L a :=
  ⟨h.1.fr f hp, h.2.1.fr f, by rw [f.R]; exact h.2.2.1, h.2.2.2⟩
def TN (μ : ax_M) (y c L : Nat) (a : Ld) : Prop := TA μ y c L a ∧ ∀ o m, o < nOf a → m < nMo a → gI μ (y + 2 + o) m = nI (num a o m)
theorem TN.bd {μ : ax_M} {y c L : Nat} {a : Ld} (h : TN μ y c L a) : ((2 ≤ nMo a ∧ nMo a ≤ 12 ∧ nGr a ≤ 4 ∧ 1 ≤ nTh a ∧ nTh a ≤ 8 ∧ nCh a ≤ 20 ∧ nTo a ≤ nCh a ∧ 1 ≤ nHo a ∧ nHo a ≤ 3 ∧ 1 ≤ nOf a ∧ nOf a ≤ 3) ∧ 64 ≤ c ∧ 64 ≤ L) ∧ 64 ≤ y := h.1.bd
def PN (y : Nat) (b _k : Nat) : Prop := y + 2 ≤ b ∧ b < y + 5
section D1
variable {l : Launch} {G : ax_G} {μ : ax_M} {y c L : Nat} {a : Ld}
theorem lsM_in {o m : Nat} (hm : m < nMo a) : lsM a o m < nMo a := by unfold lsM; split <;> omega
theorem d38 {o t m : Nat} {K : Int64 → ax_M → Prop} (hy : TA μ y c L a) (ho : o < nOf a) (ht : t < nTh a) (hm : m < nMo a) (q : K (lN (cnt a o t m)) μ) : ax_CL l G 38 [ax_r (some y), ax_i (nI o), ax_i (nI t), ax_i (nI m)] μ K := by
  have hb := hy.bd
  have ho2 := hy.1.1.1.1.1.of ho
  have h1 := allP_in hy.1.1.1.1.1 (m := m) ht
  have h2 := (stt_in hy.1.1.1.1.1 ht m).1
  unfold cnt at q
  refine ax_Ct.of (by decide) (Nat.le_of_ble_eq_true rfl) (sg38_0 l G _ y _ _ _ _ ?_)
  try simp (disch := omega) only [hy.1.1.1.1.2.1.all, hy.1.1.1.1.2.2.1, hy.1.1.1.1.2.2.2.1.1.all, hy.1.1.1.1.2.2.2.1.all, hy.1.1.1.tab, hy.1.1.2, hy.1.2, hy.2.1.all, hy.2.2.1, wr_s, in_nI, clN, ti_z, ti_l, true_and, and_true, kI, zI, rI, kL, zL, rL, kR, zR, nnI, nnL, nnR, iL, iR, lI, lR, exi, exl, exv, eq_self, nI_add, nI_mul, nI_sub, nI_ltI, nI_leI, nI_eq, q0, q1, q2, q3, q4, q5, q6, q10, q100, br_Tr, br_Fa, iI_s, iI_n, bI_q0, bI_q1, or_true, true_or, not_true_eq_false, not_false_eq_true, nI_l, ge64, Nat.lt_irrefl, Nat.add_sub_cancel, Nat.not_lt_zero, lN_0, lN_1e4, lN_1e6, lN_1e3, lN_add, lN_mul, lN_ltI, lN_leI, lN_eqI, lN_i, lcE, lcLe, lcLt, lN_div]
  refine ax_brc (fun h => ?_) (fun h => ?_)
  · rw [if_pos h] at q; exact q
  · rw [if_neg h] at q; exact q
theorem d39 {o m : Nat} {K : Int32 → ax_M → Prop} (hy : TA μ y c L a) (ho : o < nOf a) (hm : m < nMo a) (q : K (nI (lsM a o m)) μ) : ax_CI l G 39 [ax_r (some y), ax_i (nI o), ax_i (nI m)] μ K := by
  have hb := hy.bd
  have ho2 := hy.1.1.1.1.1.of ho
  unfold lsM at q
  refine ax_Ct.of (by decide) (Nat.le_of_ble_eq_true rfl) (sg39_0 l G _ y _ _ _ ?_)
  try simp (disch := omega) only [hy.1.1.1.1.2.1.all, hy.1.1.1.1.2.2.1, hy.1.1.1.1.2.2.2.1.1.all, hy.1.1.1.1.2.2.2.1.all, hy.1.1.1.tab, hy.1.1.2, hy.1.2, hy.2.1.all, hy.2.2.1, wr_s, in_nI, clN, ti_z, ti_l, true_and, and_true, kI, zI, rI, kL, zL, rL, kR, zR, nnI, nnL, nnR, iL, iR, lI, lR, exi, exl, exv, eq_self, nI_add, nI_mul, nI_ltI, nI_leI, nI_eq, q0, q1, q2, q3, q4, q5, q6, q10, q100, br_Tr, br_Fa, iI_s, iI_n, bI_q0, bI_q1, or_true, true_or, not_true_eq_false, not_false_eq_true, nI_l, ge64, Nat.lt_irrefl, Nat.add_sub_cancel, Nat.not_lt_zero, lN_0, lN_1e4, lN_1e6, lN_1e3, lN_add, lN_mul, lN_ltI, lN_leI, lN_eqI, lN_i, lcE, lcLe, lcLt, lN_div]
  refine ax_brc (fun h => ?_) (fun h => ?_)
  · rw [if_pos h] at q
    refine ax_brc (fun h => ?_) (fun h => ?_)
    · rw [show m - 1 = 0 by omega] at q; exact q
    · rw [nI_sub (by omega)]; exact q
  · rw [if_neg h] at q; exact q
theorem d103 {o t m : Nat} {K : Int64 → ax_M → Prop} (hy : TA μ y c L a) (ho : o < nOf a) (ht : t < nTh a) (hm : m < nMo a) (q : K (lN (seP a o t m)) μ) : ax_CL l G 103 [ax_r (some y), ax_i (nI o), ax_i (nI t), ax_i (nI m)] μ K := by
  have hb := hy.bd
  have ho2 := hy.1.1.1.1.1.of ho
  obtain ⟨h1, h2, h3⟩ := stt_in hy.1.1.1.1.1 ht m
  unfold seP at q
  refine ax_Ct.of (by decide) (Nat.le_of_ble_eq_true rfl) (sg103_0 l G _ y _ _ _ _ ?_)
  try simp (disch := omega) only [hy.1.1.1.1.2.1.all, hy.1.1.1.1.2.2.1, hy.1.1.1.1.2.2.2.1.1.all, hy.1.1.1.1.2.2.2.1.all, hy.1.1.1.tab, hy.1.1.2, hy.1.2, hy.2.1.all, hy.2.2.1, wr_s, in_nI, clN, ti_z, ti_l, true_and, and_true, kI, zI, rI, kL, zL, rL, kR, zR, nnI, nnL, nnR, iL, iR, lI, lR, exi, exl, exv, eq_self, nI_add, nI_mul, nI_sub, nI_ltI, nI_leI, nI_eq, q0, q1, q2, q3, q4, q5, q6, q10, q100, br_Tr, br_Fa, iI_s, iI_n, bI_q0, bI_q1, or_true, true_or, not_true_eq_false, not_false_eq_true, nI_l, ge64, Nat.lt_irrefl, Nat.add_sub_cancel, Nat.not_lt_zero, lN_0, lN_1e4, lN_1e6, lN_1e3, lN_add, lN_mul, lN_ltI, lN_leI, lN_eqI, lN_i, lcE, lcLe, lcLt, lN_div]
  refine ax_brc (fun h => ?_) (fun h => ?_)
  · rw [if_pos h] at q
    refine d1n (by omega) (by omega) (by omega) ?_
    try simp (disch := omega) only [wr_s, in_nI, clN, ti_z, ti_l, true_and, and_true, kI, zI, rI, kL, zL, rL, kR, zR, nnI, nnL, nnR, iL, iR, lI, lR, exi, exl, exv, eq_self, nI_add, nI_mul, nI_sub, nI_ltI, nI_leI, nI_eq, q0, q1, q2, q3, q4, q5, q6, q10, q100, br_Tr, br_Fa, iI_s, iI_n, bI_q0, bI_q1, or_true, true_or, not_true_eq_false, not_false_eq_true, nI_l, ge64, Nat.lt_irrefl, Nat.add_sub_cancel, Nat.not_lt_zero, lN_0, lN_1e4, lN_1e6, lN_1e3, lN_add, lN_mul, lN_ltI, lN_leI, lN_eqI, lN_i, lcE, lcLe, lcLt, lN_div]
    exact q
  · rw [if_neg h] at q; exact q
theorem d101 {o t m : Nat} {K : Int32 → ax_M → Prop} (hy : TA μ y c L a) (ho : o < nOf a) (ht : t < nTh a) (hm : m < nMo a) (q : K (bI (lft a o t m)) μ) : ax_CI l G 101 [ax_r (some y), ax_i (nI o), ax_i (nI t), ax_i (nI m)] μ K := by
  have hb := hy.bd
  have ho2 := hy.1.1.1.1.1.of ho
  unfold lft at q
  refine ax_Ct.of (by decide) (Nat.le_of_ble_eq_true rfl) (sg101_0 l G _ y _ _ _ _ ?_)
  try simp (disch := omega) only [hy.1.1.1.1.2.1.all, hy.1.1.1.1.2.2.1, hy.1.1.1.1.2.2.2.1.1.all, hy.1.1.1.1.2.2.2.1.all, hy.1.1.1.tab, hy.1.1.2, hy.1.2, hy.2.1.all, hy.2.2.1, wr_s, in_nI, clN, ti_z, ti_l, true_and, and_true, kI, zI, rI, kL, zL, rL, kR, zR, nnI, nnL, nnR, iL, iR, lI, lR, exi, exl, exv, eq_self, nI_add, nI_mul, nI_sub, nI_ltI, nI_leI, nI_eq, q0, q1, q2, q3, q4, q5, q6, q10, q100, br_Tr, br_Fa, iI_s, iI_n, bI_q0, bI_q1, or_true, true_or, not_true_eq_false, not_false_eq_true, nI_l, ge64, Nat.lt_irrefl, Nat.add_sub_cancel, Nat.not_lt_zero, lN_0, lN_1e4, lN_1e6, lN_1e3, lN_add, lN_mul, lN_ltI, lN_leI, lN_eqI, lN_i, lcE, lcLe, lcLt, lN_div]
  refine ax_brc (fun h => ?_) (fun h => ?_)
  · rw [decide_eq_true h] at q
    refine d14 hy.1.1.1 ht hm ?_
    try simp (disch := omega) only [wr_s, in_nI, clN, ti_z, ti_l, true_and, and_true, kI, zI, rI, kL, zL, rL, kR, zR, nnI, nnL, nnR, iL, iR, lI, lR, exi, exl, exv, eq_self, nI_add, nI_mul, nI_sub, nI_ltI, nI_leI, nI_eq, q0, q1, q2, q3, q4, q5, q6, q10, q100, br_Tr, br_Fa, iI_s, iI_n, bI_q0, bI_q1, or_true, true_or, not_true_eq_false, not_false_eq_true, nI_l, ge64, Nat.lt_irrefl, Nat.add_sub_cancel, Nat.not_lt_zero, lN_0, lN_1e4, lN_1e6, lN_1e3, lN_add, lN_mul, lN_ltI, lN_leI, lN_eqI, lN_i, lcE, lcLe, lcLt, lN_div]
    cases hx : Tr a t m
    · rw [hx] at q; exact ax_brt rfl q
    · rw [hx] at q; exact ax_brf (by decide) q
  · rw [decide_eq_false h] at q; exact q
theorem d102 {o t m : Nat} {K : Int32 → ax_M → Prop} (hy : TA μ y c L a) (ho : o < nOf a) (ht : t < nTh a) (hm : m < nMo a) (q : K (nI (sIn1 a o t m)) μ) : ax_CI l G 102 [ax_r (some y), ax_i (nI o), ax_i (nI t), ax_i (nI m)] μ K := by
  have hb := hy.bd
  have ha := hy.1.1.1.1.1
  have ho2 := ha.of ho
  have hl := lst_le a t m
  unfold sIn1 at q
  refine ax_Ct.of (by decide) (Nat.le_of_ble_eq_true rfl) (sg102_0 l G _ y _ _ _ _ ?_)
  try simp (disch := omega) only [hy.1.1.1.1.2.1.all, hy.1.1.1.1.2.2.1, hy.1.1.1.1.2.2.2.1.1.all, hy.1.1.1.1.2.2.2.1.all, hy.1.1.1.tab, hy.1.1.2, hy.1.2, hy.2.1.all, hy.2.2.1, wr_s, in_nI, clN, ti_z, ti_l, true_and, and_true, kI, zI, rI, kL, zL, rL, kR, zR, nnI, nnL, nnR, iL, iR, lI, lR, exi, exl, exv, eq_self, nI_add, nI_mul, nI_sub, nI_ltI, nI_leI, nI_eq, q0, q1, q2, q3, q4, q5, q6, q10, q100, br_Tr, br_Fa, iI_s, iI_n, bI_q0, bI_q1, or_true, true_or, not_true_eq_false, not_false_eq_true, nI_l, ge64, Nat.lt_irrefl, Nat.add_sub_cancel, Nat.not_lt_zero, lN_0, lN_1e4, lN_1e6, lN_1e3, lN_add, lN_mul, lN_ltI, lN_leI, lN_eqI, lN_i, lcE, lcLe, lcLt, lN_div]
  refine d14 hy.1.1.1 ht hm ?_
  try simp (disch := omega) only [hy.1.1.1.1.2.1.all, hy.1.1.1.1.2.2.1, hy.1.1.1.1.2.2.2.1.1.all, hy.1.1.1.1.2.2.2.1.all, hy.1.1.1.tab, hy.1.1.2, hy.1.2, hy.2.1.all, hy.2.2.1, wr_s, in_nI, clN, ti_z, ti_l, true_and, and_true, kI, zI, rI, kL, zL, rL, kR, zR, nnI, nnL, nnR, iL, iR, lI, lR, exi, exl, exv, eq_self, nI_add, nI_mul, nI_sub, nI_ltI, nI_leI, nI_eq, q0, q1, q2, q3, q4, q5, q6, q10, q100, br_Tr, br_Fa, iI_s, iI_n, bI_q0, bI_q1, or_true, true_or, not_true_eq_false, not_false_eq_true, nI_l, ge64, Nat.lt_irrefl, Nat.add_sub_cancel, Nat.not_lt_zero, lN_0, lN_1e4, lN_1e6, lN_1e3, lN_add, lN_mul, lN_ltI, lN_leI, lN_eqI, lN_i, lcE, lcLe, lcLt, lN_div]
  refine ax_brc (fun h => ?_) (fun h => ?_)
  · refine ax_brc (fun h1 => ?_) (fun h1 => ?_)
    · rw [if_neg (by rw [h]; simp [h1])] at q
      have h4 := (stt_in ha ht (lst a t m)).1
      refine up_to (P := fun k => (ax_Rw l G ax_h102 (ax_E G ax_h102 (fun x μ' => ∃ v : Int32, x = some (ax_i v) ∧ K v μ')) 62 [(0, ax_r (some y)), (2, ax_i (nI t)), (3, ax_i (nI m)), (4, ax_i (nI (Sz a t (lst a t m)))), (5, ax_i (nI (match neaK a t m k with | none => t | some b => b.1))), (6, ax_i (nI (match neaK a t m k with | none => 0 | some b => b.2))), (7, ax_i (nI k))] [] 0 0 μ)) (nTh a) ?_ (fun k hk ih => ?_) 0 (Nat.zero_le _)
      · refine sg102_62 l G _ y _ _ _ _ _ _ _ ?_
        try simp (disch := omega) only [hy.1.1.1.1.2.1.all, hy.1.1.1.1.2.2.1, hy.1.1.1.1.2.2.2.1.1.all, hy.1.1.1.1.2.2.2.1.all, hy.1.1.1.tab, hy.1.1.2, hy.1.2, hy.2.1.all, hy.2.2.1, wr_s, in_nI, clN, ti_z, ti_l, true_and, and_true, kI, zI, rI, kL, zL, rL, kR, zR, nnI, nnL, nnR, iL, iR, lI, lR, exi, exl, exv, eq_self, nI_add, nI_mul, nI_sub, nI_ltI, nI_leI, nI_eq, q0, q1, q2, q3, q4, q5, q6, q10, q100, br_Tr, br_Fa, iI_s, iI_n, bI_q0, bI_q1, or_true, true_or, not_true_eq_false, not_false_eq_true, nI_l, ge64, Nat.lt_irrefl, Nat.add_sub_cancel, Nat.not_lt_zero, lN_0, lN_1e4, lN_1e6, lN_1e3, lN_add, lN_mul, lN_ltI, lN_leI, lN_eqI, lN_i, lcE, lcLe, lcLt, lN_div]
        exact q
      · have g1 := ha.tg hk
        have g2 := ha.tg ht
        have h5 := (stt_in ha hk m).1
        refine sg102_62 l G _ y _ _ _ _ _ _ _ ?_
        try simp (disch := omega) only [hy.1.1.1.1.2.1.all, hy.1.1.1.1.2.2.1, hy.1.1.1.1.2.2.2.1.1.all, hy.1.1.1.1.2.2.2.1.all, hy.1.1.1.tab, hy.1.1.2, hy.1.2, hy.2.1.all, hy.2.2.1, hk, wr_s, in_nI, clN, ti_z, ti_l, true_and, and_true, kI, zI, rI, kL, zL, rL, kR, zR, nnI, nnL, nnR, iL, iR, lI, lR, exi, exl, exv, eq_self, nI_add, nI_mul, nI_sub, nI_ltI, nI_leI, nI_eq, q0, q1, q2, q3, q4, q5, q6, q10, q100, br_Tr, br_Fa, iI_s, iI_n, bI_q0, bI_q1, or_true, true_or, not_true_eq_false, not_false_eq_true, nI_l, ge64, Nat.lt_irrefl, Nat.add_sub_cancel, Nat.not_lt_zero, lN_0, lN_1e4, lN_1e6, lN_1e3, lN_add, lN_mul, lN_ltI, lN_leI, lN_eqI, lN_i, lcE, lcLe, lcLt, lN_div]
        unfold neaK at ih
        refine ax_brc (fun e1 => ?_) (fun e1 => ?_)
        · refine d14 hy.1.1.1 hk hm ?_
          try simp (disch := omega) only [wr_s, in_nI, clN, ti_z, ti_l, true_and, and_true, kI, zI, rI, kL, zL, rL, kR, zR, nnI, nnL, nnR, iL, iR, lI, lR, exi, exl, exv, eq_self, nI_add, nI_mul, nI_sub, nI_ltI, nI_leI, nI_eq, q0, q1, q2, q3, q4, q5, q6, q10, q100, br_Tr, br_Fa, iI_s, iI_n, bI_q0, bI_q1, or_true, true_or, not_true_eq_false, not_false_eq_true, nI_l, ge64, Nat.lt_irrefl, Nat.add_sub_cancel, Nat.not_lt_zero, lN_0, lN_1e4, lN_1e6, lN_1e3, lN_add, lN_mul, lN_ltI, lN_leI, lN_eqI, lN_i, lcE, lcLe, lcLt, lN_div]
          refine ax_brc (fun e2 => ?_) (fun e2 => ?_)
          · rw [if_neg (fun q => by rw [q.2] at e2; cases e2)] at ih
            exact ih
          · have e2 : Tr a k m = true := by simpa using e2
            rw [if_pos ⟨e1, e2⟩] at ih
            try simp (disch := omega) only [hy.1.1.1.1.2.1.all, hy.1.1.1.1.2.2.1, hy.1.1.1.1.2.2.2.1.1.all, hy.1.1.1.1.2.2.2.1.all, hy.1.1.1.tab, hy.1.1.2, hy.1.2, hy.2.1.all, hy.2.2.1, abs_dif, wr_s, in_nI, clN, ti_z, ti_l, true_and, and_true, kI, zI, rI, kL, zL, rL, kR, zR, nnI, nnL, nnR, iL, iR, lI, lR, exi, exl, exv, eq_self, nI_add, nI_mul, nI_ltI, nI_leI, nI_eq, q0, q1, q2, q3, q4, q5, q6, q10, q100, br_Tr, br_Fa, iI_s, iI_n, bI_q0, bI_q1, or_true, true_or, not_true_eq_false, not_false_eq_true, nI_l, ge64, Nat.lt_irrefl, Nat.add_sub_cancel, Nat.not_lt_zero, lN_0, lN_1e4, lN_1e6, lN_1e3, lN_add, lN_mul, lN_ltI, lN_leI, lN_eqI, lN_i, lcE, lcLe, lcLt, lN_div]
            have hkt : ¬ k = t := fun e => by subst e; rw [h] at e2; cases e2
            cases hn : neaK a t m k with
            | none =>
              rw [hn] at ih
              exact ax_brt rfl ih
            | some b =>
              rw [hn] at ih
              have hi := neaK_in ha ht k (by omega) b hn
              have hbt : ¬ b.1 = t := fun e => by
                have := hi.2.2.1
                rw [e, h] at this; cases this
              have hd : dif (Sz a k m) (Sz a t (lst a t m)) ≤ 999 := by unfold dif; omega
              refine ax_brf (fun e => hbt ((nI_eq (by omega) (by omega)).mp e)) ?_
              simp only at ih
              refine br_lt (dif (Sz a k m) (Sz a t (lst a t m))) b.2 rfl rfl (by omega) (by omega) (fun h => ?_) (fun h => ?_)
              · rw [if_pos h] at ih; exact ih
              · rw [if_neg (by omega)] at ih; exact ih
        · rw [if_neg (fun q => e1 q.1)] at ih
          exact ih
    · rw [if_pos (Or.inr h1)] at q; exact q
  · rw [if_pos (Or.inl (by simpa using h))] at q; exact q
theorem d145 {o t li m : Nat} {K : Int64 → ax_M → Prop} (hy : TA μ y c L a) (ho : o < nOf a) (ht : t < nTh a) (hli : li < nMo a) (hm : m < nMo a) (q : K (lN (pOw a o li m t)) μ) : ax_CL l G 145 [ax_r (some y), ax_i (nI o), ax_i (nI t), ax_i (nI li), ax_i (nI m)] μ K := by
  have hb := hy.bd
  unfold pOw at q
  refine ax_Ct.of (by decide) (Nat.le_of_ble_eq_true rfl) (sg145_0 l G _ y _ _ _ _ _ ?_)
  try simp (disch := omega) only [hy.1.1.1.1.2.1.all, hy.1.1.1.1.2.2.1, hy.1.1.1.1.2.2.2.1.1.all, hy.1.1.1.1.2.2.2.1.all, hy.1.1.1.tab, hy.1.1.2, hy.1.2, hy.2.1.all, hy.2.2.1, wr_s, in_nI, clN, ti_z, ti_l, true_and, and_true, kI, zI, rI, kL, zL, rL, kR, zR, nnI, nnL, nnR, iL, iR, lI, lR, exi, exl, exv, eq_self, nI_add, nI_mul, nI_sub, nI_ltI, nI_leI, nI_eq, q0, q1, q2, q3, q4, q5, q6, q10, q100, br_Tr, br_Fa, iI_s, iI_n, bI_q0, bI_q1, or_true, true_or, not_true_eq_false, not_false_eq_true, nI_l, ge64, Nat.lt_irrefl, Nat.add_sub_cancel, Nat.not_lt_zero, lN_0, lN_1e4, lN_1e6, lN_1e3, lN_add, lN_mul, lN_ltI, lN_leI, lN_eqI, lN_i, lcE, lcLe, lcLt, lN_div]
  refine d101 hy ho ht hm ?_
  try simp (disch := omega) only [hy.1.1.1.1.2.1.all, hy.1.1.1.1.2.2.1, hy.1.1.1.1.2.2.2.1.1.all, hy.1.1.1.1.2.2.2.1.all, hy.1.1.1.tab, hy.1.1.2, hy.1.2, hy.2.1.all, hy.2.2.1, wr_s, in_nI, clN, ti_z, ti_l, true_and, and_true, kI, zI, rI, kL, zL, rL, kR, zR, nnI, nnL, nnR, iL, iR, lI, lR, exi, exl, exv, eq_self, nI_add, nI_mul, nI_sub, nI_ltI, nI_leI, nI_eq, q0, q1, q2, q3, q4, q5, q6, q10, q100, br_Tr, br_Fa, iI_s, iI_n, bI_q0, bI_q1, or_true, true_or, not_true_eq_false, not_false_eq_true, nI_l, ge64, Nat.lt_irrefl, Nat.add_sub_cancel, Nat.not_lt_zero, lN_0, lN_1e4, lN_1e6, lN_1e3, lN_add, lN_mul, lN_ltI, lN_leI, lN_eqI, lN_i, lcE, lcLe, lcLt, lN_div]
  refine ax_brc (fun h => ?_) (fun h => ?_)
  · rw [if_neg (by rw [h]; exact Bool.false_ne_true)] at q
    refine d38 hy ho ht hli ?_
    try simp (disch := omega) only [hy.1.1.1.1.2.1.all, hy.1.1.1.1.2.2.1, hy.1.1.1.1.2.2.2.1.1.all, hy.1.1.1.1.2.2.2.1.all, hy.1.1.1.tab, hy.1.1.2, hy.1.2, hy.2.1.all, hy.2.2.1, wr_s, in_nI, clN, ti_z, ti_l, true_and, and_true, kI, zI, rI, kL, zL, rL, kR, zR, nnI, nnL, nnR, iL, iR, lI, lR, exi, exl, exv, eq_self, nI_add, nI_mul, nI_sub, nI_ltI, nI_leI, nI_eq, q0, q1, q2, q3, q4, q5, q6, q10, q100, br_Tr, br_Fa, iI_s, iI_n, bI_q0, bI_q1, or_true, true_or, not_true_eq_false, not_false_eq_true, nI_l, ge64, Nat.lt_irrefl, Nat.add_sub_cancel, Nat.not_lt_zero, lN_0, lN_1e4, lN_1e6, lN_1e3, lN_add, lN_mul, lN_ltI, lN_leI, lN_eqI, lN_i, lcE, lcLe, lcLt, lN_div]
    refine d103 hy ho ht hli ?_
    try simp (disch := omega) only [hy.1.1.1.1.2.1.all, hy.1.1.1.1.2.2.1, hy.1.1.1.1.2.2.2.1.1.all, hy.1.1.1.1.2.2.2.1.all, hy.1.1.1.tab, hy.1.1.2, hy.1.2, hy.2.1.all, hy.2.2.1, wr_s, in_nI, clN, ti_z, ti_l, true_and, and_true, kI, zI, rI, kL, zL, rL, kR, zR, nnI, nnL, nnR, iL, iR, lI, lR, exi, exl, exv, eq_self, nI_add, nI_mul, nI_sub, nI_ltI, nI_leI, nI_eq, q0, q1, q2, q3, q4, q5, q6, q10, q100, br_Tr, br_Fa, iI_s, iI_n, bI_q0, bI_q1, or_true, true_or, not_true_eq_false, not_false_eq_true, nI_l, ge64, Nat.lt_irrefl, Nat.add_sub_cancel, Nat.not_lt_zero, lN_0, lN_1e4, lN_1e6, lN_1e3, lN_add, lN_mul, lN_ltI, lN_leI, lN_eqI, lN_i, lcE, lcLe, lcLt, lN_div]
    exact q
  · rw [if_pos (by simpa using h)] at q
    exact q
theorem d146 {o t li m : Nat} {K : Int64 → ax_M → Prop} (hy : TA μ y c L a) (ho : o < nOf a) (ht : t < nTh a) (hli : li < nMo a) (hm : m < nMo a) (q : K (lN (pTh a o li m t)) μ) : ax_CL l G 146 [ax_r (some y), ax_i (nI o), ax_i (nI t), ax_i (nI li), ax_i (nI m)] μ K := by
  have hb := hy.bd
  have ha := hy.1.1.1.1.1
  have hc := cnt_in ha (o := o) (m := li) ht
  have hs := sIn1_in ha (o := o) (m := m) ht
  have hl := lst_le a t m
  unfold pTh at q
  refine ax_Ct.of (by decide) (Nat.le_of_ble_eq_true rfl) (sg146_0 l G _ y _ _ _ _ _ ?_)
  try simp (disch := omega) only [hy.1.1.1.1.2.1.all, hy.1.1.1.1.2.2.1, hy.1.1.1.1.2.2.2.1.1.all, hy.1.1.1.1.2.2.2.1.all, hy.1.1.1.tab, hy.1.1.2, hy.1.2, hy.2.1.all, hy.2.2.1, wr_s, in_nI, clN, ti_z, ti_l, true_and, and_true, kI, zI, rI, kL, zL, rL, kR, zR, nnI, nnL, nnR, iL, iR, lI, lR, exi, exl, exv, eq_self, nI_add, nI_mul, nI_sub, nI_ltI, nI_leI, nI_eq, q0, q1, q2, q3, q4, q5, q6, q10, q100, br_Tr, br_Fa, iI_s, iI_n, bI_q0, bI_q1, or_true, true_or, not_true_eq_false, not_false_eq_true, nI_l, ge64, Nat.lt_irrefl, Nat.add_sub_cancel, Nat.not_lt_zero, lN_0, lN_1e4, lN_1e6, lN_1e3, lN_add, lN_mul, lN_ltI, lN_leI, lN_eqI, lN_i, lcE, lcLe, lcLt, lN_div]
  refine d38 hy ho ht hli ?_
  try simp (disch := omega) only [hy.1.1.1.1.2.1.all, hy.1.1.1.1.2.2.1, hy.1.1.1.1.2.2.2.1.1.all, hy.1.1.1.1.2.2.2.1.all, hy.1.1.1.tab, hy.1.1.2, hy.1.2, hy.2.1.all, hy.2.2.1, wr_s, in_nI, clN, ti_z, ti_l, true_and, and_true, kI, zI, rI, kL, zL, rL, kR, zR, nnI, nnL, nnR, iL, iR, lI, lR, exi, exl, exv, eq_self, nI_add, nI_mul, nI_sub, nI_ltI, nI_leI, nI_eq, q0, q1, q2, q3, q4, q5, q6, q10, q100, br_Tr, br_Fa, iI_s, iI_n, bI_q0, bI_q1, or_true, true_or, not_true_eq_false, not_false_eq_true, nI_l, ge64, Nat.lt_irrefl, Nat.add_sub_cancel, Nat.not_lt_zero, lN_0, lN_1e4, lN_1e6, lN_1e3, lN_add, lN_mul, lN_ltI, lN_leI, lN_eqI, lN_i, lcE, lcLe, lcLt, lN_div]
  refine ax_brc (fun h => ?_) (fun h => ?_)
  · rw [if_pos (Or.inl h)] at q; exact q
  · refine d101 hy ho ht hm ?_
    try simp (disch := omega) only [hy.1.1.1.1.2.1.all, hy.1.1.1.1.2.2.1, hy.1.1.1.1.2.2.2.1.1.all, hy.1.1.1.1.2.2.2.1.all, hy.1.1.1.tab, hy.1.1.2, hy.1.2, hy.2.1.all, hy.2.2.1, wr_s, in_nI, clN, ti_z, ti_l, true_and, and_true, kI, zI, rI, kL, zL, rL, kR, zR, nnI, nnL, nnR, iL, iR, lI, lR, exi, exl, exv, eq_self, nI_add, nI_mul, nI_sub, nI_ltI, nI_leI, nI_eq, q0, q1, q2, q3, q4, q5, q6, q10, q100, br_Tr, br_Fa, iI_s, iI_n, bI_q0, bI_q1, or_true, true_or, not_true_eq_false, not_false_eq_true, nI_l, ge64, Nat.lt_irrefl, Nat.add_sub_cancel, Nat.not_lt_zero, lN_0, lN_1e4, lN_1e6, lN_1e3, lN_add, lN_mul, lN_ltI, lN_leI, lN_eqI, lN_i, lcE, lcLe, lcLt, lN_div]
    refine ax_brc (fun h1 => ?_) (fun h1 => ?_)
    · rw [if_neg (by rw [h1]; simp [h])] at q
      refine d102 hy ho ht hm ?_
      try simp (disch := omega) only [hy.1.1.1.1.2.1.all, hy.1.1.1.1.2.2.1, hy.1.1.1.1.2.2.2.1.1.all, hy.1.1.1.1.2.2.2.1.all, hy.1.1.1.tab, hy.1.1.2, hy.1.2, hy.2.1.all, hy.2.2.1, wr_s, in_nI, clN, ti_z, ti_l, true_and, and_true, kI, zI, rI, kL, zL, rL, kR, zR, nnI, nnL, nnR, iL, iR, lI, lR, exi, exl, exv, eq_self, nI_add, nI_mul, nI_sub, nI_ltI, nI_leI, nI_eq, q0, q1, q2, q3, q4, q5, q6, q10, q100, br_Tr, br_Fa, iI_s, iI_n, bI_q0, bI_q1, or_true, true_or, not_true_eq_false, not_false_eq_true, nI_l, ge64, Nat.lt_irrefl, Nat.add_sub_cancel, Nat.not_lt_zero, lN_0, lN_1e4, lN_1e6, lN_1e3, lN_add, lN_mul, lN_ltI, lN_leI, lN_eqI, lN_i, lcE, lcLe, lcLt, lN_div]
      refine ax_brc (fun h2 => ?_) (fun h2 => ?_)
      · rw [if_pos h2] at q
        refine d103 hy ho hs (by omega) ?_
        try simp (disch := omega) only [wr_s, in_nI, clN, ti_z, ti_l, true_and, and_true, kI, zI, rI, kL, zL, rL, kR, zR, nnI, nnL, nnR, iL, iR, lI, lR, exi, exl, exv, eq_self, nI_add, nI_mul, nI_sub, nI_ltI, nI_leI, nI_eq, q0, q1, q2, q3, q4, q5, q6, q10, q100, br_Tr, br_Fa, iI_s, iI_n, bI_q0, bI_q1, or_true, true_or, not_true_eq_false, not_false_eq_true, nI_l, ge64, Nat.lt_irrefl, Nat.add_sub_cancel, Nat.not_lt_zero, lN_0, lN_1e4, lN_1e6, lN_1e3, lN_add, lN_mul, lN_ltI, lN_leI, lN_eqI, lN_i, lcE, lcLe, lcLt, lN_div]
        exact q
      · rw [if_neg h2] at q
        refine d103 hy ho hs hm ?_
        try simp (disch := omega) only [wr_s, in_nI, clN, ti_z, ti_l, true_and, and_true, kI, zI, rI, kL, zL, rL, kR, zR, nnI, nnL, nnR, iL, iR, lI, lR, exi, exl, exv, eq_self, nI_add, nI_mul, nI_sub, nI_ltI, nI_leI, nI_eq, q0, q1, q2, q3, q4, q5, q6, q10, q100, br_Tr, br_Fa, iI_s, iI_n, bI_q0, bI_q1, or_true, true_or, not_true_eq_false, not_false_eq_true, nI_l, ge64, Nat.lt_irrefl, Nat.add_sub_cancel, Nat.not_lt_zero, lN_0, lN_1e4, lN_1e6, lN_1e3, lN_add, lN_mul, lN_ltI, lN_leI, lN_eqI, lN_i, lcE, lcLe, lcLt, lN_div]
        exact q
    · rw [if_pos (Or.inr (by simpa using h1))] at q; exact q
theorem d177 {o m : Nat} {K : Int32 → ax_M → Prop} (hy : TA μ y c L a) (ho : o < nOf a) (hm : m + 1 < nMo a) (hn : gI μ (y + 2 + o) m = nI (num a o m)) (q : K (nI (num a o (m + 1))) μ) : ax_CI l G 177 [ax_r (some y), ax_i (nI o), ax_i (nI (m + 1))] μ K := by
  have hb := hy.bd
  have ha := hy.1.1.1.1.1
  have ho2 := ha.of ho
  have hls := lsM_in (o := o) hm
  refine ax_Ct.of (by decide) (Nat.le_of_ble_eq_true rfl) (sg177_0 l G _ y _ _ _ ?_)
  try simp (disch := omega) only [hy.1.1.1.1.2.1.all, hy.1.1.1.1.2.2.1, hy.1.1.1.1.2.2.2.1.1.all, hy.1.1.1.1.2.2.2.1.all, hy.1.1.1.tab, hy.1.1.2, hy.1.2, hy.2.1.all, hy.2.2.1, wr_s, in_nI, clN, ti_z, ti_l, true_and, and_true, kI, zI, rI, kL, zL, rL, kR, zR, nnI, nnL, nnR, iL, iR, lI, lR, exi, exl, exv, eq_self, nI_add, nI_mul, nI_sub, nI_ltI, nI_leI, nI_eq, q0, q1, q2, q3, q4, q5, q6, q10, q100, br_Tr, br_Fa, iI_s, iI_n, bI_q0, bI_q1, or_true, true_or, not_true_eq_false, not_false_eq_true, nI_l, ge64, Nat.lt_irrefl, Nat.add_sub_cancel, Nat.not_lt_zero, lN_0, lN_1e4, lN_1e6, lN_1e3, lN_add, lN_mul, lN_ltI, lN_leI, lN_eqI, lN_i, lcE, lcLe, lcLt, lN_div]
  refine d39 hy ho hm ?_
  refine up_to (P := fun t => (ax_Rw l G ax_h177 (ax_E G ax_h177 (fun x μ' => ∃ v : Int32, x = some (ax_i v) ∧ K v μ')) 16 [(0, ax_r (some y)), (1, ax_i (nI o)), (2, ax_i (nI (m + 1))), (3, ax_i (nI (lsM a o (m + 1)))), (4, ax_l (lN (sumN (pTh a o (lsM a o (m + 1)) (m + 1)) t))), (6, ax_l (lN (sumN (pOw a o (lsM a o (m + 1)) (m + 1)) t))), (8, ax_i (nI t))] [] 0 0 μ)) (nTh a) ?_ (fun t ht ih => ?_) 0 (Nat.zero_le _)
  · have hT := sumT_in ha (o := o) (li := lsM a o (m + 1)) (m := m + 1) (Nat.le_refl (nTh a))
    have hO := sumO_in ha (o := o) (li := lsM a o (m + 1)) (m := m + 1) (Nat.le_refl (nTh a))
    have hN := num_in a o m
    refine sg177_16 l G _ y _ _ _ _ _ _ _ ?_
    try simp (disch := omega) only [hy.1.1.1.1.2.1.all, hy.1.1.1.1.2.2.1, hy.1.1.1.1.2.2.2.1.1.all, hy.1.1.1.1.2.2.2.1.all, hy.1.1.1.tab, hy.1.1.2, hy.1.2, hy.2.1.all, hy.2.2.1, hn, wr_s, in_nI, clN, ti_z, ti_l, true_and, and_true, kI, zI, rI, kL, zL, rL, kR, zR, nnI, nnL, nnR, iL, iR, lI, lR, exi, exl, exv, eq_self, nI_add, nI_mul, nI_sub, nI_ltI, nI_leI, nI_eq, q0, q1, q2, q3, q4, q5, q6, q10, q100, br_Tr, br_Fa, iI_s, iI_n, bI_q0, bI_q1, or_true, true_or, not_true_eq_false, not_false_eq_true, nI_l, ge64, Nat.lt_irrefl, Nat.add_sub_cancel, Nat.not_lt_zero, lN_0, lN_1e4, lN_1e6, lN_1e3, lN_add, lN_mul, lN_ltI, lN_leI, lN_eqI, lN_i, lcE, lcLe, lcLt, lN_div]
    unfold num smO smT at q
    generalize sumN (pTh a o (lsM a o (m + 1)) (m + 1)) (nTh a) = sT at hT q
    generalize sumN (pOw a o (lsM a o (m + 1)) (m + 1)) (nTh a) = sO at hO q
    refine ax_brc (fun h => ?_) (fun h => ?_)
    · rw [if_pos h] at q
      have hp : num a o m * sT ≤ 1000000 * 237125037600 := Nat.mul_le_mul hN hT
      rcases Nat.eq_zero_or_pos sO with rfl | h0
      · rw [if_pos rfl] at q
        refine d1z ?_
        try simp (disch := omega) only [wr_s, in_nI, clN, ti_z, ti_l, true_and, and_true, kI, zI, rI, kL, zL, rL, kR, zR, nnI, nnL, nnR, iL, iR, lI, lR, exi, exl, exv, eq_self, nI_add, nI_mul, nI_sub, nI_ltI, nI_leI, nI_eq, q0, q1, q2, q3, q4, q5, q6, q10, q100, br_Tr, br_Fa, iI_s, iI_n, bI_q0, bI_q1, or_true, true_or, not_true_eq_false, not_false_eq_true, nI_l, ge64, Nat.lt_irrefl, Nat.add_sub_cancel, Nat.not_lt_zero, lN_0, lN_1e4, lN_1e6, lN_1e3, lN_add, lN_mul, lN_ltI, lN_leI, lN_eqI, lN_i, lcE, lcLe, lcLt, lN_div]
        rw [show (if num a o m < 1000000 then lN (num a o m) else lN 1000000) = lN (num a o m) by
          split
          · rfl
          · congr 1; omega]
        try simp (disch := omega) only [wr_s, in_nI, clN, ti_z, ti_l, true_and, and_true, kI, zI, rI, kL, zL, rL, kR, zR, nnI, nnL, nnR, iL, iR, lI, lR, exi, exl, exv, eq_self, nI_add, nI_mul, nI_sub, nI_ltI, nI_leI, nI_eq, q0, q1, q2, q3, q4, q5, q6, q10, q100, br_Tr, br_Fa, iI_s, iI_n, bI_q0, bI_q1, or_true, true_or, not_true_eq_false, not_false_eq_true, nI_l, ge64, Nat.lt_irrefl, Nat.add_sub_cancel, Nat.not_lt_zero, lN_0, lN_1e4, lN_1e6, lN_1e3, lN_add, lN_mul, lN_ltI, lN_leI, lN_eqI, lN_i, lcE, lcLe, lcLt, lN_div]
        exact q
      · rw [if_neg (by omega)] at q
        refine d1n (by omega) (by omega) h0 ?_
        have hd : num a o m * sT / sO < 2 ^ 63 := Nat.lt_of_le_of_lt (Nat.div_le_self _ _) (by omega)
        try simp (disch := omega) only [wr_s, in_nI, clN, ti_z, ti_l, true_and, and_true, kI, zI, rI, kL, zL, rL, kR, zR, nnI, nnL, nnR, iL, iR, lI, lR, exi, exl, exv, eq_self, nI_add, nI_mul, nI_sub, nI_ltI, nI_leI, nI_eq, q0, q1, q2, q3, q4, q5, q6, q10, q100, br_Tr, br_Fa, iI_s, iI_n, bI_q0, bI_q1, or_true, true_or, not_true_eq_false, not_false_eq_true, nI_l, ge64, Nat.lt_irrefl, Nat.add_sub_cancel, Nat.not_lt_zero, lN_0, lN_1e4, lN_1e6, lN_1e3, lN_add, lN_mul, lN_ltI, lN_leI, lN_eqI, lN_i, lcE, lcLe, lcLt, lN_div]
        generalize num a o m * sT / sO = z at hd q
        split
        · rw [Nat.min_eq_right (by omega)] at q; try simp (disch := omega) only [wr_s, in_nI, clN, ti_z, ti_l, true_and, and_true, kI, zI, rI, kL, zL, rL, kR, zR, nnI, nnL, nnR, iL, iR, lI, lR, exi, exl, exv, eq_self, nI_add, nI_mul, nI_sub, nI_ltI, nI_leI, nI_eq, q0, q1, q2, q3, q4, q5, q6, q10, q100, br_Tr, br_Fa, iI_s, iI_n, bI_q0, bI_q1, or_true, true_or, not_true_eq_false, not_false_eq_true, nI_l, ge64, Nat.lt_irrefl, Nat.add_sub_cancel, Nat.not_lt_zero, lN_0, lN_1e4, lN_1e6, lN_1e3, lN_add, lN_mul, lN_ltI, lN_leI, lN_eqI, lN_i, lcE, lcLe, lcLt, lN_div]; exact q
        · rw [Nat.min_eq_left (by omega)] at q; try simp (disch := omega) only [wr_s, in_nI, clN, ti_z, ti_l, true_and, and_true, kI, zI, rI, kL, zL, rL, kR, zR, nnI, nnL, nnR, iL, iR, lI, lR, exi, exl, exv, eq_self, nI_add, nI_mul, nI_sub, nI_ltI, nI_leI, nI_eq, q0, q1, q2, q3, q4, q5, q6, q10, q100, br_Tr, br_Fa, iI_s, iI_n, bI_q0, bI_q1, or_true, true_or, not_true_eq_false, not_false_eq_true, nI_l, ge64, Nat.lt_irrefl, Nat.add_sub_cancel, Nat.not_lt_zero, lN_0, lN_1e4, lN_1e6, lN_1e3, lN_add, lN_mul, lN_ltI, lN_leI, lN_eqI, lN_i, lcE, lcLe, lcLt, lN_div]; exact q
    · rw [if_neg h] at q
      refine d85 (by omega) (by omega) ?_
      try simp (disch := omega) only [wr_s, in_nI, clN, ti_z, ti_l, true_and, and_true, kI, zI, rI, kL, zL, rL, kR, zR, nnI, nnL, nnR, iL, iR, lI, lR, exi, exl, exv, eq_self, nI_add, nI_mul, nI_sub, nI_ltI, nI_leI, nI_eq, q0, q1, q2, q3, q4, q5, q6, q10, q100, br_Tr, br_Fa, iI_s, iI_n, bI_q0, bI_q1, or_true, true_or, not_true_eq_false, not_false_eq_true, nI_l, ge64, Nat.lt_irrefl, Nat.add_sub_cancel, Nat.not_lt_zero, lN_0, lN_1e4, lN_1e6, lN_1e3, lN_add, lN_mul, lN_ltI, lN_leI, lN_eqI, lN_i, lcE, lcLe, lcLt, lN_div]
      exact q
  · refine sg177_16 l G _ y _ _ _ _ _ _ _ ?_
    try simp (disch := omega) only [hy.1.1.1.1.2.1.all, hy.1.1.1.1.2.2.1, hy.1.1.1.1.2.2.2.1.1.all, hy.1.1.1.1.2.2.2.1.all, hy.1.1.1.tab, hy.1.1.2, hy.1.2, hy.2.1.all, hy.2.2.1, ht, wr_s, in_nI, clN, ti_z, ti_l, true_and, and_true, kI, zI, rI, kL, zL, rL, kR, zR, nnI, nnL, nnR, iL, iR, lI, lR, exi, exl, exv, eq_self, nI_add, nI_mul, nI_sub, nI_ltI, nI_leI, nI_eq, q0, q1, q2, q3, q4, q5, q6, q10, q100, br_Tr, br_Fa, iI_s, iI_n, bI_q0, bI_q1, or_true, true_or, not_true_eq_false, not_false_eq_true, nI_l, ge64, Nat.lt_irrefl, Nat.add_sub_cancel, Nat.not_lt_zero, lN_0, lN_1e4, lN_1e6, lN_1e3, lN_add, lN_mul, lN_ltI, lN_leI, lN_eqI, lN_i, lcE, lcLe, lcLt, lN_div]
    refine d146 hy ho ht hls hm ?_
    try simp (disch := omega) only [hy.1.1.1.1.2.1.all, hy.1.1.1.1.2.2.1, hy.1.1.1.1.2.2.2.1.1.all, hy.1.1.1.1.2.2.2.1.all, hy.1.1.1.tab, hy.1.1.2, hy.1.2, hy.2.1.all, hy.2.2.1, wr_s, in_nI, clN, ti_z, ti_l, true_and, and_true, kI, zI, rI, kL, zL, rL, kR, zR, nnI, nnL, nnR, iL, iR, lI, lR, exi, exl, exv, eq_self, nI_add, nI_mul, nI_sub, nI_ltI, nI_leI, nI_eq, q0, q1, q2, q3, q4, q5, q6, q10, q100, br_Tr, br_Fa, iI_s, iI_n, bI_q0, bI_q1, or_true, true_or, not_true_eq_false, not_false_eq_true, nI_l, ge64, Nat.lt_irrefl, Nat.add_sub_cancel, Nat.not_lt_zero, lN_0, lN_1e4, lN_1e6, lN_1e3, lN_add, lN_mul, lN_ltI, lN_leI, lN_eqI, lN_i, lcE, lcLe, lcLt, lN_div]
    refine d145 hy ho ht hls hm ?_
    try simp (disch := omega) only [hy.1.1.1.1.2.1.all, hy.1.1.1.1.2.2.1, hy.1.1.1.1.2.2.2.1.1.all, hy.1.1.1.1.2.2.2.1.all, hy.1.1.1.tab, hy.1.1.2, hy.1.2, hy.2.1.all, hy.2.2.1, wr_s, in_nI, clN, ti_z, ti_l, true_and, and_true, kI, zI, rI, kL, zL, rL, kR, zR, nnI, nnL, nnR, iL, iR, lI, lR, exi, exl, exv, eq_self, nI_add, nI_mul, nI_sub, nI_ltI, nI_leI, nI_eq, q0, q1, q2, q3, q4, q5, q6, q10, q100, br_Tr, br_Fa, iI_s, iI_n, bI_q0, bI_q1, or_true, true_or, not_true_eq_false, not_false_eq_true, nI_l, ge64, Nat.lt_irrefl, Nat.add_sub_cancel, Nat.not_lt_zero, lN_0, lN_1e4, lN_1e6, lN_1e3, lN_add, lN_mul, lN_ltI, lN_leI, lN_eqI, lN_i, lcE, lcLe, lcLt, lN_div]
    exact ih
end D1
