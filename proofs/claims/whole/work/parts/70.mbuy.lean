/-! the model: what is bought -/
theorem nI_pp (x m : Nat) : nI (x + (m + 1)) - nI 1 = nI (x + m) := nI_sub1 (x + m)
def PbM (r b k : Nat) : Prop := (b = 338 ∨ b = 339) ∧ 12 * r ≤ k ∧ k < 12 * r + 12
def PLy (b _k : Nat) : Prop := 334 ≤ b ∧ b < 340
section F2
variable {l : Launch} {G : ax_G} {μ : ax_M} {N : Nat} {a : Ld}
theorem d122 {t m : Nat} {K : Int32 → ax_M → Prop} (hc : MT μ N a) (ht : t < nTh a) (hm : m < nMo a) (q : K (nI (Sz a t m * Sf a t m)) μ) : ax_CI l G 122 [ax_r (some 332), ax_i (nI t), ax_i (nI m)] μ K := by
  have hb := hc.bd
  refine ax_Ct.of (by decide) (Nat.le_of_ble_eq_true rfl) (sg122_0 l G _ 332 _ _ _ ?_)
  try simp (disch := omega) only [hc.1.2.1.all, hc.1.2.2.1, hc.1.2.2.2.1.all, hc.1.2.2.2.all, hc.2, wr_s, in_nI, clN, ti_z, ti_l, true_and, and_true, kI, zI, rI, kL, zL, rL, kR, zR, nnI, nnL, nnR, iL, iR, lI, lR, exi, exl, exv, eq_self, nI_add, nI_mul, nI_sub, nI_ltI, nI_leI, nI_eq, q0, q1, q2, q3, q4, q5, q6, q10, q100, br_Tr, br_Fa, iI_s, iI_n, bI_q0, bI_q1, or_true, true_or, not_true_eq_false, not_false_eq_true, nI_l, ge64, Nat.lt_irrefl, Nat.add_sub_cancel, Nat.not_lt_zero, lN_0, lN_1e4, lN_1e6, lN_1e3, lN_add, lN_mul, lN_ltI, lN_leI, lN_eqI, lN_i, lcE, lcLe, lcLt, lN_div, q7, q12, q20, q99, q200, q999, q1e4, if_true, if_false, Nat.le_refl]
  refine d50 ?_
  try simp (disch := omega) only [hc.1.2.1.all, hc.1.2.2.1, hc.1.2.2.2.1.all, hc.1.2.2.2.all, hc.2, wr_s, in_nI, clN, ti_z, ti_l, true_and, and_true, kI, zI, rI, kL, zL, rL, kR, zR, nnI, nnL, nnR, iL, iR, lI, lR, exi, exl, exv, eq_self, nI_add, nI_mul, nI_sub, nI_ltI, nI_leI, nI_eq, q0, q1, q2, q3, q4, q5, q6, q10, q100, br_Tr, br_Fa, iI_s, iI_n, bI_q0, bI_q1, or_true, true_or, not_true_eq_false, not_false_eq_true, nI_l, ge64, Nat.lt_irrefl, Nat.add_sub_cancel, Nat.not_lt_zero, lN_0, lN_1e4, lN_1e6, lN_1e3, lN_add, lN_mul, lN_ltI, lN_leI, lN_eqI, lN_i, lcE, lcLe, lcLt, lN_div, q7, q12, q20, q99, q200, q999, q1e4, if_true, if_false, Nat.le_refl]
  refine d50 ?_
  try simp (disch := omega) only [hc.1.2.1.all, hc.1.2.2.1, hc.1.2.2.2.1.all, hc.1.2.2.2.all, hc.2, wr_s, in_nI, clN, ti_z, ti_l, true_and, and_true, kI, zI, rI, kL, zL, rL, kR, zR, nnI, nnL, nnR, iL, iR, lI, lR, exi, exl, exv, eq_self, nI_add, nI_mul, nI_sub, nI_ltI, nI_leI, nI_eq, q0, q1, q2, q3, q4, q5, q6, q10, q100, br_Tr, br_Fa, iI_s, iI_n, bI_q0, bI_q1, or_true, true_or, not_true_eq_false, not_false_eq_true, nI_l, ge64, Nat.lt_irrefl, Nat.add_sub_cancel, Nat.not_lt_zero, lN_0, lN_1e4, lN_1e6, lN_1e3, lN_add, lN_mul, lN_ltI, lN_leI, lN_eqI, lN_i, lcE, lcLe, lcLt, lN_div, q7, q12, q20, q99, q200, q999, q1e4, if_true, if_false, Nat.le_refl]
  exact q
theorem d155 {w t m : Nat} {K : Int32 → ax_M → Prop} (hc : MT μ N a) (hw : w ≤ 99) (ht : t < nTh a) (hm : m < nMo a) (q : K (nI (pcs a w t m)) μ) : ax_CI l G 155 [ax_r (some 332), ax_i (nI t), ax_i (nI m), ax_i (nI w)] μ K := by
  have hb := hc.bd
  have hv := worth_in hc.1.1 ht m
  refine ax_Ct.of (by decide) (Nat.le_of_ble_eq_true rfl) (sg155_0 l G _ 332 _ _ _ _ ?_)
  try simp (disch := omega) only [hc.1.2.1.all, hc.1.2.2.1, hc.1.2.2.2.1.all, hc.1.2.2.2.all, hc.2, wr_s, in_nI, clN, ti_z, ti_l, true_and, and_true, kI, zI, rI, kL, zL, rL, kR, zR, nnI, nnL, nnR, iL, iR, lI, lR, exi, exl, exv, eq_self, nI_add, nI_mul, nI_sub, nI_ltI, nI_leI, nI_eq, q0, q1, q2, q3, q4, q5, q6, q10, q100, br_Tr, br_Fa, iI_s, iI_n, bI_q0, bI_q1, or_true, true_or, not_true_eq_false, not_false_eq_true, nI_l, ge64, Nat.lt_irrefl, Nat.add_sub_cancel, Nat.not_lt_zero, lN_0, lN_1e4, lN_1e6, lN_1e3, lN_add, lN_mul, lN_ltI, lN_leI, lN_eqI, lN_i, lcE, lcLe, lcLt, lN_div, q7, q12, q20, q99, q200, q999, q1e4, if_true, if_false, Nat.le_refl]
  refine d122 hc ht hm ?_
  try simp (disch := omega) only [hc.1.2.1.all, hc.1.2.2.1, hc.1.2.2.2.1.all, hc.1.2.2.2.all, hc.2, wr_s, in_nI, clN, ti_z, ti_l, true_and, and_true, kI, zI, rI, kL, zL, rL, kR, zR, nnI, nnL, nnR, iL, iR, lI, lR, exi, exl, exv, eq_self, nI_add, nI_mul, nI_sub, nI_ltI, nI_leI, nI_eq, q0, q1, q2, q3, q4, q5, q6, q10, q100, br_Tr, br_Fa, iI_s, iI_n, bI_q0, bI_q1, or_true, true_or, not_true_eq_false, not_false_eq_true, nI_l, ge64, Nat.lt_irrefl, Nat.add_sub_cancel, Nat.not_lt_zero, lN_0, lN_1e4, lN_1e6, lN_1e3, lN_add, lN_mul, lN_ltI, lN_leI, lN_eqI, lN_i, lcE, lcLe, lcLt, lN_div, q7, q12, q20, q99, q200, q999, q1e4, if_true, if_false, Nat.le_refl]
  refine d122 hc ht hm ?_
  try simp (disch := omega) only [hc.1.2.1.all, hc.1.2.2.1, hc.1.2.2.2.1.all, hc.1.2.2.2.all, hc.2, wr_s, in_nI, clN, ti_z, ti_l, true_and, and_true, kI, zI, rI, kL, zL, rL, kR, zR, nnI, nnL, nnR, iL, iR, lI, lR, exi, exl, exv, eq_self, nI_add, nI_mul, nI_sub, nI_ltI, nI_leI, nI_eq, q0, q1, q2, q3, q4, q5, q6, q10, q100, br_Tr, br_Fa, iI_s, iI_n, bI_q0, bI_q1, or_true, true_or, not_true_eq_false, not_false_eq_true, nI_l, ge64, Nat.lt_irrefl, Nat.add_sub_cancel, Nat.not_lt_zero, lN_0, lN_1e4, lN_1e6, lN_1e3, lN_add, lN_mul, lN_ltI, lN_leI, lN_eqI, lN_i, lcE, lcLe, lcLt, lN_div, q7, q12, q20, q99, q200, q999, q1e4, if_true, if_false, Nat.le_refl]
  refine ⟨by omega, ?_⟩
  rw [nI_div (by omega) (by omega)]
  exact q
theorem d179 {g w m : Nat} {K : Int32 → ax_M → Prop} (hc : MT μ N a) (hw : w ≤ 99) (hg : g < 2 ^ 31) (hm : m < nMo a) (q : K (e4 (best a g w m)) μ) : ax_CI l G 179 [ax_r (some 332), ax_i (nI g), ax_i (nI m), ax_i (nI w)] μ K := by
  have hb := hc.bd
  refine ax_Ct.of (by decide) (Nat.le_of_ble_eq_true rfl) (sg179_0 l G _ 332 _ _ _ _ ?_)
  refine up_to (P := fun t => (ax_Rw l G ax_h179 (ax_E G ax_h179 _) 10 [(0, ax_r (some 332)), (1, ax_i (nI g)), (2, ax_i (nI m)), (3, ax_i (nI w)), (4, ax_i (e4 (bstK a g w m t))), (5, ax_i (e5 (bstK a g w m t))), (6, ax_i (nI t))] [] 0 0 μ)) (nTh a) ?_ (fun t ht ih => ?_) 0 (Nat.zero_le _)
  · refine sg179_10 l G _ 332 _ _ _ _ _ _ _ ?_
    try simp (disch := omega) only [hc.1.2.1.all, hc.1.2.2.1, hc.1.2.2.2.1.all, hc.1.2.2.2.all, hc.2, wr_s, in_nI, clN, ti_z, ti_l, true_and, and_true, kI, zI, rI, kL, zL, rL, kR, zR, nnI, nnL, nnR, iL, iR, lI, lR, exi, exl, exv, eq_self, nI_add, nI_mul, nI_sub, nI_ltI, nI_leI, nI_eq, q0, q1, q2, q3, q4, q5, q6, q10, q100, br_Tr, br_Fa, iI_s, iI_n, bI_q0, bI_q1, or_true, true_or, not_true_eq_false, not_false_eq_true, nI_l, ge64, Nat.lt_irrefl, Nat.add_sub_cancel, Nat.not_lt_zero, lN_0, lN_1e4, lN_1e6, lN_1e3, lN_add, lN_mul, lN_ltI, lN_leI, lN_eqI, lN_i, lcE, lcLe, lcLt, lN_div, q7, q12, q20, q99, q200, q999, q1e4, if_true, if_false, Nat.le_refl]
    exact q
  · have hgt := hc.1.1.tg ht
    refine sg179_10 l G _ 332 _ _ _ _ _ _ _ ?_
    try simp (disch := omega) only [hc.1.2.1.all, hc.1.2.2.1, hc.1.2.2.2.1.all, hc.1.2.2.2.all, hc.2, ht, wr_s, in_nI, clN, ti_z, ti_l, true_and, and_true, kI, zI, rI, kL, zL, rL, kR, zR, nnI, nnL, nnR, iL, iR, lI, lR, exi, exl, exv, eq_self, nI_add, nI_mul, nI_sub, nI_ltI, nI_leI, nI_eq, q0, q1, q2, q3, q4, q5, q6, q10, q100, br_Tr, br_Fa, iI_s, iI_n, bI_q0, bI_q1, or_true, true_or, not_true_eq_false, not_false_eq_true, nI_l, ge64, Nat.lt_irrefl, Nat.add_sub_cancel, Nat.not_lt_zero, lN_0, lN_1e4, lN_1e6, lN_1e3, lN_add, lN_mul, lN_ltI, lN_leI, lN_eqI, lN_i, lcE, lcLe, lcLt, lN_div, q7, q12, q20, q99, q200, q999, q1e4, if_true, if_false, Nat.le_refl]
    unfold bstK at ih
    refine ax_brc (fun h1 => ?_) (fun h1 => ?_)
    · refine d50 ?_
      try simp (disch := omega) only [hc.1.2.1.all, hc.1.2.2.1, hc.1.2.2.2.1.all, hc.1.2.2.2.all, hc.2, wr_s, in_nI, clN, ti_z, ti_l, true_and, and_true, kI, zI, rI, kL, zL, rL, kR, zR, nnI, nnL, nnR, iL, iR, lI, lR, exi, exl, exv, eq_self, nI_add, nI_mul, nI_sub, nI_ltI, nI_leI, nI_eq, q0, q1, q2, q3, q4, q5, q6, q10, q100, br_Tr, br_Fa, iI_s, iI_n, bI_q0, bI_q1, or_true, true_or, not_true_eq_false, not_false_eq_true, nI_l, ge64, Nat.lt_irrefl, Nat.add_sub_cancel, Nat.not_lt_zero, lN_0, lN_1e4, lN_1e6, lN_1e3, lN_add, lN_mul, lN_ltI, lN_leI, lN_eqI, lN_i, lcE, lcLe, lcLt, lN_div, q7, q12, q20, q99, q200, q999, q1e4, if_true, if_false, Nat.le_refl]
      refine ax_brc (fun h2 => ?_) (fun h2 => ?_)
      · rw [if_neg (fun q => by rw [q.2] at h2; cases h2)] at ih
        exact ih
      · rw [if_pos ⟨h1, by simpa using h2⟩] at ih
        refine d155 hc hw ht hm ?_
        try simp (disch := omega) only [hc.1.2.1.all, hc.1.2.2.1, hc.1.2.2.2.1.all, hc.1.2.2.2.all, hc.2, wr_s, in_nI, clN, ti_z, ti_l, true_and, and_true, kI, zI, rI, kL, zL, rL, kR, zR, nnI, nnL, nnR, iL, iR, lI, lR, exi, exl, exv, eq_self, nI_add, nI_mul, nI_sub, nI_ltI, nI_leI, nI_eq, q0, q1, q2, q3, q4, q5, q6, q10, q100, br_Tr, br_Fa, iI_s, iI_n, bI_q0, bI_q1, or_true, true_or, not_true_eq_false, not_false_eq_true, nI_l, ge64, Nat.lt_irrefl, Nat.add_sub_cancel, Nat.not_lt_zero, lN_0, lN_1e4, lN_1e6, lN_1e3, lN_add, lN_mul, lN_ltI, lN_leI, lN_eqI, lN_i, lcE, lcLe, lcLt, lN_div, q7, q12, q20, q99, q200, q999, q1e4, if_true, if_false, Nat.le_refl]
        refine d50 ?_
        have hp : pcs a w t m * Pr a t m ≤ 98901 := Nat.mul_le_mul (pcs_in hc.1.1 ht hw m) (stt_in hc.1.1 ht m).2.2.2
        try simp (disch := omega) only [hc.1.2.1.all, hc.1.2.2.1, hc.1.2.2.2.1.all, hc.1.2.2.2.all, hc.2, wr_s, in_nI, clN, ti_z, ti_l, true_and, and_true, kI, zI, rI, kL, zL, rL, kR, zR, nnI, nnL, nnR, iL, iR, lI, lR, exi, exl, exv, eq_self, nI_add, nI_mul, nI_sub, nI_ltI, nI_leI, nI_eq, q0, q1, q2, q3, q4, q5, q6, q10, q100, br_Tr, br_Fa, iI_s, iI_n, bI_q0, bI_q1, or_true, true_or, not_true_eq_false, not_false_eq_true, nI_l, ge64, Nat.lt_irrefl, Nat.add_sub_cancel, Nat.not_lt_zero, lN_0, lN_1e4, lN_1e6, lN_1e3, lN_add, lN_mul, lN_ltI, lN_leI, lN_eqI, lN_i, lcE, lcLe, lcLt, lN_div, q7, q12, q20, q99, q200, q999, q1e4, if_true, if_false, Nat.le_refl]
        cases hk : bstK a g w m t with
        | none =>
          rw [hk] at ih
          exact ax_brt (by decide +kernel) ih
        | some b =>
          rw [hk] at ih
          have hi := bstK_in hc.1.1 (g := g) (m := m) hw t (by omega) b hk
          refine ax_brf (fun e => neg2_ne (show b.1 < 2 ^ 31 by omega) e.symm) ?_
          simp only at ih
          refine br_lt (pcs a w t m * Pr a t m) b.2 rfl rfl (by omega) (by omega) (fun h => ?_) (fun h => ?_)
          · rw [if_pos h] at ih; exact ih
          · rw [if_neg (by omega)] at ih; exact ih
    · rw [if_neg (fun q => h1 q.1)] at ih
      exact ih
theorem d111n {x y : Int32} {K : Int32 → ax_M → Prop} (q : K (bI false) μ) : ax_CI l G 111 [ax_r (some 332), ax_i x, ax_i (-nI 2), ax_i y] μ K := by
  refine ax_Ct.of (by decide) (Nat.le_of_ble_eq_true rfl) (sg111_0 l G _ 332 _ _ _ _ ?_)
  try simp (disch := omega) only [wr_s, in_nI, clN, ti_z, ti_l, true_and, and_true, kI, zI, rI, kL, zL, rL, kR, zR, nnI, nnL, nnR, iL, iR, lI, lR, exi, exl, exv, eq_self, nI_add, nI_mul, nI_sub, nI_ltI, nI_leI, nI_eq, q0, q1, q2, q3, q4, q5, q6, q10, q100, br_Tr, br_Fa, iI_s, iI_n, bI_q0, bI_q1, or_true, true_or, not_true_eq_false, not_false_eq_true, nI_l, ge64, Nat.lt_irrefl, Nat.add_sub_cancel, Nat.not_lt_zero, lN_0, lN_1e4, lN_1e6, lN_1e3, lN_add, lN_mul, lN_ltI, lN_leI, lN_eqI, lN_i, lcE, lcLe, lcLt, lN_div, q7, q12, q20, q99, q200, q999, q1e4, if_true, if_false, Nat.le_refl]
  exact q
theorem d111 {h t m : Nat} {K : Int32 → ax_M → Prop} (hc : MT μ N a) (hh : h < nHo a) (ht : t < nTh a) (hm : m + 1 < nMo a) (q : K (bI (stays a h t (m + 1))) μ) : ax_CI l G 111 [ax_r (some 332), ax_i (nI h), ax_i (nI t), ax_i (nI (m + 1))] μ K := by
  have hb := hc.bd
  obtain ⟨s1, s2, s3⟩ := stt_in hc.1.1 ht m
  obtain ⟨r1, r2, r3⟩ := stt_in hc.1.1 ht (m + 1)
  have hn := (hc.1.1.hw hh).1
  have e1 : hN a h * Pr a t m ≤ 99 * 999 := Nat.mul_le_mul hn s3.2
  have e2 : hN a h * Sz a t m ≤ 99 * 999 := Nat.mul_le_mul hn s1.2
  unfold stays at q
  rw [Nat.add_sub_cancel] at q
  refine ax_Ct.of (by decide) (Nat.le_of_ble_eq_true rfl) (sg111_0 l G _ 332 _ _ _ _ ?_)
  try simp (disch := omega) only [wr_s, in_nI, clN, ti_z, ti_l, true_and, and_true, kI, zI, rI, kL, zL, rL, kR, zR, nnI, nnL, nnR, iL, iR, lI, lR, exi, exl, exv, eq_self, nI_add, nI_mul, nI_sub, nI_ltI, nI_leI, nI_eq, q0, q1, q2, q3, q4, q5, q6, q10, q100, br_Tr, br_Fa, iI_s, iI_n, bI_q0, bI_q1, or_true, true_or, not_true_eq_false, not_false_eq_true, nI_l, ge64, Nat.lt_irrefl, Nat.add_sub_cancel, Nat.not_lt_zero, lN_0, lN_1e4, lN_1e6, lN_1e3, lN_add, lN_mul, lN_ltI, lN_leI, lN_eqI, lN_i, lcE, lcLe, lcLt, lN_div, q7, q12, q20, q99, q200, q999, q1e4, if_true, if_false, Nat.le_refl]
  refine ax_brf (fun e => neg2_ne (show t < 2 ^ 31 by omega) e.symm) ?_
  try simp (disch := omega) only [hc.1.2.1.all, hc.1.2.2.1, hc.1.2.2.2.1.all, hc.1.2.2.2.all, hc.2, wr_s, in_nI, clN, ti_z, ti_l, true_and, and_true, kI, zI, rI, kL, zL, rL, kR, zR, nnI, nnL, nnR, iL, iR, lI, lR, exi, exl, exv, eq_self, nI_add, nI_mul, nI_sub, nI_ltI, nI_leI, nI_eq, q0, q1, q2, q3, q4, q5, q6, q10, q100, br_Tr, br_Fa, iI_s, iI_n, bI_q0, bI_q1, or_true, true_or, not_true_eq_false, not_false_eq_true, nI_l, ge64, Nat.lt_irrefl, Nat.add_sub_cancel, Nat.not_lt_zero, lN_0, lN_1e4, lN_1e6, lN_1e3, lN_add, lN_mul, lN_ltI, lN_leI, lN_eqI, lN_i, lcE, lcLe, lcLt, lN_div, q7, q12, q20, q99, q200, q999, q1e4, if_true, if_false, Nat.le_refl]
  refine d50 ?_
  try simp (disch := omega) only [hc.1.2.1.all, hc.1.2.2.1, hc.1.2.2.2.1.all, hc.1.2.2.2.all, hc.2, wr_s, in_nI, clN, ti_z, ti_l, true_and, and_true, kI, zI, rI, kL, zL, rL, kR, zR, nnI, nnL, nnR, iL, iR, lI, lR, exi, exl, exv, eq_self, nI_add, nI_mul, nI_sub, nI_ltI, nI_leI, nI_eq, q0, q1, q2, q3, q4, q5, q6, q10, q100, br_Tr, br_Fa, iI_s, iI_n, bI_q0, bI_q1, or_true, true_or, not_true_eq_false, not_false_eq_true, nI_l, ge64, Nat.lt_irrefl, Nat.add_sub_cancel, Nat.not_lt_zero, lN_0, lN_1e4, lN_1e6, lN_1e3, lN_add, lN_mul, lN_ltI, lN_leI, lN_eqI, lN_i, lcE, lcLe, lcLt, lN_div, q7, q12, q20, q99, q200, q999, q1e4, if_true, if_false, Nat.le_refl]
  refine ax_brc (fun h1 => ?_) (fun h1 => ?_)
  · rw [h1] at q; exact q
  · rw [show Tr a t (m + 1) = true by simpa using h1] at q
    refine d50 ?_
    try simp (disch := omega) only [nI_pp, hc.1.2.1.all, hc.1.2.2.1, hc.1.2.2.2.1.all, hc.1.2.2.2.all, hc.2, sub_cmp', wr_s, in_nI, clN, ti_z, ti_l, true_and, and_true, kI, zI, rI, kL, zL, rL, kR, zR, nnI, nnL, nnR, iL, iR, lI, lR, exi, exl, exv, eq_self, nI_add, nI_mul, nI_ltI, nI_leI, nI_eq, q0, q1, q2, q3, q4, q5, q6, q10, q100, br_Tr, br_Fa, iI_s, iI_n, bI_q0, bI_q1, or_true, true_or, not_true_eq_false, not_false_eq_true, nI_l, ge64, Nat.lt_irrefl, Nat.add_sub_cancel, Nat.not_lt_zero, lN_0, lN_1e4, lN_1e6, lN_1e3, lN_add, lN_mul, lN_ltI, lN_leI, lN_eqI, lN_i, lcE, lcLe, lcLt, lN_div, q7, q12, q20, q99, q200, q999, q1e4, if_true, if_false, Nat.le_refl]
    refine ax_brc (fun h2 => ?_) (fun h2 => ?_)
    · rw [decide_eq_false h2] at q
      refine ax_brc (fun h3 => ?_) (fun h3 => ?_)
      · rw [decide_eq_false h3] at q
        exact q
      · rw [decide_eq_true (Decidable.not_not.mp h3)] at q
        exact q
    · rw [decide_eq_true (Decidable.not_not.mp h2)] at q
      exact q
theorem d188 {h g : Nat} {K : ax_M → Prop} (hc : MT μ N a) (hh : h < nHo a) (hg : g < nGr a) (h0 : 0 < hW a h g) (q : ∀ μ', Fr (PbM (4 * h + g)) μ μ' → (∀ m, m < nMo a → gI μ' 338 (12 * (4 * h + g) + m) = enc (buy a h g m).1 ∧ gI μ' 339 (12 * (4 * h + g) + m) = nI (buy a h g m).2) → K μ') : ax_CV l G 188 [ax_r (some 332), ax_i (nI h), ax_i (nI g)] μ K := by
  have hb := hc.bd
  have hW9 := (hc.1.1.hw hh).2.2 g (by omega)
  refine ax_Ct.of (by decide) (Nat.le_of_ble_eq_true rfl) (sg188_0 l G _ 332 _ _ _ ?_)
  try simp (disch := omega) only [hc.1.2.1.all, hc.1.2.2.1, hc.1.2.2.2.1.all, hc.1.2.2.2.all, hc.2, wr_s, in_nI, clN, ti_z, ti_l, true_and, and_true, kI, zI, rI, kL, zL, rL, kR, zR, nnI, nnL, nnR, iL, iR, lI, lR, exi, exl, exv, eq_self, nI_add, nI_mul, nI_sub, nI_ltI, nI_leI, nI_eq, q0, q1, q2, q3, q4, q5, q6, q10, q100, br_Tr, br_Fa, iI_s, iI_n, bI_q0, bI_q1, or_true, true_or, not_true_eq_false, not_false_eq_true, nI_l, ge64, Nat.lt_irrefl, Nat.add_sub_cancel, Nat.not_lt_zero, lN_0, lN_1e4, lN_1e6, lN_1e3, lN_add, lN_mul, lN_ltI, lN_leI, lN_eqI, lN_i, lcE, lcLe, lcLt, lN_div, q7, q12, q20, q99, q200, q999, q1e4, if_true, if_false, Nat.le_refl]
  refine up_to (P := fun m => ∀ μm, Fr (PbM (4 * h + g)) μ μm → (∀ i, i < m → gI μm 338 (12 * (4 * h + g) + i) = enc (buy a h g i).1 ∧ gI μm 339 (12 * (4 * h + g) + i) = nI (buy a h g i).2) → (ax_Rw l G ax_h188 (ax_E G ax_h188 (fun x μ' => x = none ∧ K μ')) 17 [(0, ax_r (some 332)), (1, ax_i (nI h)), (2, ax_i (nI g)), (3, ax_i (nI (hW a h g))), (4, ax_i (nI m))] [] 0 0 μm)) (nMo a) (fun μm f hr => ?_) (fun m hm ih μm f hr => ?_) 0 (Nat.zero_le _) μ (Fr.refl _ _) (fun i hi => by omega)
  · have hc := hc.fr f (fun b k q => by have := q.1; omega)
    refine sg188_17 l G _ 332 _ _ _ _ _ ?_
    try simp (disch := omega) only [hc.1.2.1.all, hc.1.2.2.1, hc.1.2.2.2.1.all, hc.1.2.2.2.all, hc.2, wr_s, in_nI, clN, ti_z, ti_l, true_and, and_true, kI, zI, rI, kL, zL, rL, kR, zR, nnI, nnL, nnR, iL, iR, lI, lR, exi, exl, exv, eq_self, nI_add, nI_mul, nI_sub, nI_ltI, nI_leI, nI_eq, q0, q1, q2, q3, q4, q5, q6, q10, q100, br_Tr, br_Fa, iI_s, iI_n, bI_q0, bI_q1, or_true, true_or, not_true_eq_false, not_false_eq_true, nI_l, ge64, Nat.lt_irrefl, Nat.add_sub_cancel, Nat.not_lt_zero, lN_0, lN_1e4, lN_1e6, lN_1e3, lN_add, lN_mul, lN_ltI, lN_leI, lN_eqI, lN_i, lcE, lcLe, lcLt, lN_div, q7, q12, q20, q99, q200, q999, q1e4, if_true, if_false, Nat.le_refl]
    exact q μm f hr
  · have hc := hc.fr f (fun b k q => by have := q.1; omega)
    have fin : ∀ v : Option Nat × Nat, buy a h g m = v → (ax_Rw l G ax_h188 (ax_E G ax_h188 (fun x μ' => x = none ∧ K μ')) 17 [(0, ax_r (some 332)), (1, ax_i (nI h)), (2, ax_i (nI g)), (3, ax_i (nI (hW a h g))), (4, ax_i (nI (m + 1)))] [] 0 0 (sI (sI μm 338 (12 * (4 * h + g) + m) (enc v.1)) 339 (12 * (4 * h + g) + m) (nI v.2))) := by
      intro v hv
      refine ih _ ((f.put ⟨Or.inl rfl, by omega, by omega⟩).put ⟨Or.inr rfl, by omega, by omega⟩) (lt_s (fun i hi => ?_) ?_)
      · try simp (disch := omega) only [wr_s, in_nI, clN, ti_z, ti_l, true_and, and_true, kI, zI, rI, kL, zL, rL, kR, zR, nnI, nnL, nnR, iL, iR, lI, lR, exi, exl, exv, eq_self, nI_add, nI_mul, nI_sub, nI_ltI, nI_leI, nI_eq, q0, q1, q2, q3, q4, q5, q6, q10, q100, br_Tr, br_Fa, iI_s, iI_n, bI_q0, bI_q1, or_true, true_or, not_true_eq_false, not_false_eq_true, nI_l, ge64, Nat.lt_irrefl, Nat.add_sub_cancel, Nat.not_lt_zero, lN_0, lN_1e4, lN_1e6, lN_1e3, lN_add, lN_mul, lN_ltI, lN_leI, lN_eqI, lN_i, lcE, lcLe, lcLt, lN_div, q7, q12, q20, q99, q200, q999, q1e4, if_true, if_false, Nat.le_refl]
        exact hr i hi
      · try simp (disch := omega) only [wr_s, in_nI, clN, ti_z, ti_l, true_and, and_true, kI, zI, rI, kL, zL, rL, kR, zR, nnI, nnL, nnR, iL, iR, lI, lR, exi, exl, exv, eq_self, nI_add, nI_mul, nI_sub, nI_ltI, nI_leI, nI_eq, q0, q1, q2, q3, q4, q5, q6, q10, q100, br_Tr, br_Fa, iI_s, iI_n, bI_q0, bI_q1, or_true, true_or, not_true_eq_false, not_false_eq_true, nI_l, ge64, Nat.lt_irrefl, Nat.add_sub_cancel, Nat.not_lt_zero, lN_0, lN_1e4, lN_1e6, lN_1e3, lN_add, lN_mul, lN_ltI, lN_leI, lN_eqI, lN_i, lcE, lcLe, lcLt, lN_div, q7, q12, q20, q99, q200, q999, q1e4, if_true, if_false, Nat.le_refl]
        rw [hv]
        exact ⟨rfl, rfl⟩
    have st : buy a h g m = anew a h g m → (ax_Rw l G ax_h188 (ax_E G ax_h188 (fun x μ' => x = none ∧ K μ')) 112 [(0, ax_r (some 332)), (1, ax_i (nI h)), (2, ax_i (nI g)), (3, ax_i (nI (hW a h g))), (4, ax_i (nI m)), (5, ax_i (nI (12 * (4 * h + g) + m)))] [] 0 0 (sI μm 338 (12 * (4 * h + g) + m) (e4 (best a g (hW a h g) m)))) := by
      intro hv
      have fin := fin _ hv
      unfold anew at fin
      rw [if_neg (by omega)] at fin
      cases hbs : best a g (hW a h g) m with
      | none =>
        rw [hbs] at fin
        rw [enc_none] at fin
        refine sg188_112 l G _ 332 _ _ _ _ _ _ ?_
        try simp (disch := omega) only [hc.1.2.1.all, hc.1.2.2.1, hc.1.2.2.2.1.all, hc.1.2.2.2.all, hc.2, show e4 none = -nI 2 by decide +kernel, wr_s, in_nI, clN, ti_z, ti_l, true_and, and_true, kI, zI, rI, kL, zL, rL, kR, zR, nnI, nnL, nnR, iL, iR, lI, lR, exi, exl, exv, eq_self, nI_add, nI_mul, nI_sub, nI_ltI, nI_leI, nI_eq, q0, q1, q2, q3, q4, q5, q6, q10, q100, br_Tr, br_Fa, iI_s, iI_n, bI_q0, bI_q1, or_true, true_or, not_true_eq_false, not_false_eq_true, nI_l, ge64, Nat.lt_irrefl, Nat.add_sub_cancel, Nat.not_lt_zero, lN_0, lN_1e4, lN_1e6, lN_1e3, lN_add, lN_mul, lN_ltI, lN_leI, lN_eqI, lN_i, lcE, lcLe, lcLt, lN_div, q7, q12, q20, q99, q200, q999, q1e4, if_true, if_false, Nat.le_refl]
        exact fin
      | some b =>
        rw [hbs] at fin
        have hbi := best_in hc.1.1 hW9 hbs
        refine sg188_112 l G _ 332 _ _ _ _ _ _ ?_
        try simp (disch := omega) only [hc.1.2.1.all, hc.1.2.2.1, hc.1.2.2.2.1.all, hc.1.2.2.2.all, hc.2, show e4 (some b) = nI b.1 from rfl, wr_s, in_nI, clN, ti_z, ti_l, true_and, and_true, kI, zI, rI, kL, zL, rL, kR, zR, nnI, nnL, nnR, iL, iR, lI, lR, exi, exl, exv, eq_self, nI_add, nI_mul, nI_sub, nI_ltI, nI_leI, nI_eq, q0, q1, q2, q3, q4, q5, q6, q10, q100, br_Tr, br_Fa, iI_s, iI_n, bI_q0, bI_q1, or_true, true_or, not_true_eq_false, not_false_eq_true, nI_l, ge64, Nat.lt_irrefl, Nat.add_sub_cancel, Nat.not_lt_zero, lN_0, lN_1e4, lN_1e6, lN_1e3, lN_add, lN_mul, lN_ltI, lN_leI, lN_eqI, lN_i, lcE, lcLe, lcLt, lN_div, q7, q12, q20, q99, q200, q999, q1e4, if_true, if_false, Nat.le_refl]
        refine ax_brf (fun e => neg2_ne (show b.1 < 2 ^ 31 by omega) e.symm) ?_
        refine d155 (hc.fr ((Fr.refl (PbM (4 * h + g)) μm).put ⟨Or.inl rfl, by omega, by omega⟩) (fun b k q => by have := q.1; omega)) hW9 hbi.1 hm ?_
        try simp (disch := omega) only [hc.1.2.1.all, hc.1.2.2.1, hc.1.2.2.2.1.all, hc.1.2.2.2.all, hc.2, wr_s, in_nI, clN, ti_z, ti_l, true_and, and_true, kI, zI, rI, kL, zL, rL, kR, zR, nnI, nnL, nnR, iL, iR, lI, lR, exi, exl, exv, eq_self, nI_add, nI_mul, nI_sub, nI_ltI, nI_leI, nI_eq, q0, q1, q2, q3, q4, q5, q6, q10, q100, br_Tr, br_Fa, iI_s, iI_n, bI_q0, bI_q1, or_true, true_or, not_true_eq_false, not_false_eq_true, nI_l, ge64, Nat.lt_irrefl, Nat.add_sub_cancel, Nat.not_lt_zero, lN_0, lN_1e4, lN_1e6, lN_1e3, lN_add, lN_mul, lN_ltI, lN_leI, lN_eqI, lN_i, lcE, lcLe, lcLt, lN_div, q7, q12, q20, q99, q200, q999, q1e4, if_true, if_false, Nat.le_refl]
        exact fin
    refine sg188_17 l G _ 332 _ _ _ _ _ ?_
    cases m with
    | zero =>
      try simp (disch := omega) only [hc.1.2.1.all, hc.1.2.2.1, hc.1.2.2.2.1.all, hc.1.2.2.2.all, hc.2, hm, wr_s, in_nI, clN, ti_z, ti_l, true_and, and_true, kI, zI, rI, kL, zL, rL, kR, zR, nnI, nnL, nnR, iL, iR, lI, lR, exi, exl, exv, eq_self, nI_add, nI_mul, nI_sub, nI_ltI, nI_leI, nI_eq, q0, q1, q2, q3, q4, q5, q6, q10, q100, br_Tr, br_Fa, iI_s, iI_n, bI_q0, bI_q1, or_true, true_or, not_true_eq_false, not_false_eq_true, nI_l, ge64, Nat.lt_irrefl, Nat.add_sub_cancel, Nat.not_lt_zero, lN_0, lN_1e4, lN_1e6, lN_1e3, lN_add, lN_mul, lN_ltI, lN_leI, lN_eqI, lN_i, lcE, lcLe, lcLt, lN_div, q7, q12, q20, q99, q200, q999, q1e4, if_true, if_false, Nat.le_refl]
      refine d72 ?_
      try simp (disch := omega) only [hc.1.2.1.all, hc.1.2.2.1, hc.1.2.2.2.1.all, hc.1.2.2.2.all, hc.2, wr_s, in_nI, clN, ti_z, ti_l, true_and, and_true, kI, zI, rI, kL, zL, rL, kR, zR, nnI, nnL, nnR, iL, iR, lI, lR, exi, exl, exv, eq_self, nI_add, nI_mul, nI_sub, nI_ltI, nI_leI, nI_eq, q0, q1, q2, q3, q4, q5, q6, q10, q100, br_Tr, br_Fa, iI_s, iI_n, bI_q0, bI_q1, or_true, true_or, not_true_eq_false, not_false_eq_true, nI_l, ge64, Nat.lt_irrefl, Nat.add_sub_cancel, Nat.not_lt_zero, lN_0, lN_1e4, lN_1e6, lN_1e3, lN_add, lN_mul, lN_ltI, lN_leI, lN_eqI, lN_i, lcE, lcLe, lcLt, lN_div, q7, q12, q20, q99, q200, q999, q1e4, if_true, if_false, Nat.le_refl]
      refine d179 hc hW9 (by omega) hm ?_
      try simp (disch := omega) only [hc.1.2.1.all, hc.1.2.2.1, hc.1.2.2.2.1.all, hc.1.2.2.2.all, hc.2, wr_s, in_nI, clN, ti_z, ti_l, true_and, and_true, kI, zI, rI, kL, zL, rL, kR, zR, nnI, nnL, nnR, iL, iR, lI, lR, exi, exl, exv, eq_self, nI_add, nI_mul, nI_sub, nI_ltI, nI_leI, nI_eq, q0, q1, q2, q3, q4, q5, q6, q10, q100, br_Tr, br_Fa, iI_s, iI_n, bI_q0, bI_q1, or_true, true_or, not_true_eq_false, not_false_eq_true, nI_l, ge64, Nat.lt_irrefl, Nat.add_sub_cancel, Nat.not_lt_zero, lN_0, lN_1e4, lN_1e6, lN_1e3, lN_add, lN_mul, lN_ltI, lN_leI, lN_eqI, lN_i, lcE, lcLe, lcLt, lN_div, q7, q12, q20, q99, q200, q999, q1e4, if_true, if_false, Nat.le_refl]
      exact st rfl
    | succ j =>
      obtain ⟨r1, r2⟩ := hr j (by omega)
      have hbi := (buy_in hc.1.1 hh (show g < 4 by omega) j).1
      try simp (disch := omega) only [hc.1.2.1.all, hc.1.2.2.1, hc.1.2.2.2.1.all, hc.1.2.2.2.all, hc.2, hm, wr_s, in_nI, clN, ti_z, ti_l, true_and, and_true, kI, zI, rI, kL, zL, rL, kR, zR, nnI, nnL, nnR, iL, iR, lI, lR, exi, exl, exv, eq_self, nI_add, nI_mul, nI_sub, nI_ltI, nI_leI, nI_eq, q0, q1, q2, q3, q4, q5, q6, q10, q100, br_Tr, br_Fa, iI_s, iI_n, bI_q0, bI_q1, or_true, true_or, not_true_eq_false, not_false_eq_true, nI_l, ge64, Nat.lt_irrefl, Nat.add_sub_cancel, Nat.not_lt_zero, lN_0, lN_1e4, lN_1e6, lN_1e3, lN_add, lN_mul, lN_ltI, lN_leI, lN_eqI, lN_i, lcE, lcLe, lcLt, lN_div, q7, q12, q20, q99, q200, q999, q1e4, if_true, if_false, Nat.le_refl]
      refine d72 ?_
      try simp (disch := omega) only [nI_pp, hc.1.2.1.all, hc.1.2.2.1, hc.1.2.2.2.1.all, hc.1.2.2.2.all, hc.2, r1, r2, show ¬ (j + 1 ≤ 0) by omega, wr_s, in_nI, clN, ti_z, ti_l, true_and, and_true, kI, zI, rI, kL, zL, rL, kR, zR, nnI, nnL, nnR, iL, iR, lI, lR, exi, exl, exv, eq_self, nI_add, nI_mul, nI_ltI, nI_leI, nI_eq, q0, q1, q2, q3, q4, q5, q6, q10, q100, br_Tr, br_Fa, iI_s, iI_n, bI_q0, bI_q1, or_true, true_or, not_true_eq_false, not_false_eq_true, nI_l, ge64, Nat.lt_irrefl, Nat.add_sub_cancel, Nat.not_lt_zero, lN_0, lN_1e4, lN_1e6, lN_1e3, lN_add, lN_mul, lN_ltI, lN_leI, lN_eqI, lN_i, lcE, lcLe, lcLt, lN_div, q7, q12, q20, q99, q200, q999, q1e4, if_true, if_false, Nat.le_refl]
      cases hbj : (buy a h g j).1 with
      | none =>
        try simp (disch := omega) only [enc_none, wr_s, in_nI, clN, ti_z, ti_l, true_and, and_true, kI, zI, rI, kL, zL, rL, kR, zR, nnI, nnL, nnR, iL, iR, lI, lR, exi, exl, exv, eq_self, nI_add, nI_mul, nI_sub, nI_ltI, nI_leI, nI_eq, q0, q1, q2, q3, q4, q5, q6, q10, q100, br_Tr, br_Fa, iI_s, iI_n, bI_q0, bI_q1, or_true, true_or, not_true_eq_false, not_false_eq_true, nI_l, ge64, Nat.lt_irrefl, Nat.add_sub_cancel, Nat.not_lt_zero, lN_0, lN_1e4, lN_1e6, lN_1e3, lN_add, lN_mul, lN_ltI, lN_leI, lN_eqI, lN_i, lcE, lcLe, lcLt, lN_div, q7, q12, q20, q99, q200, q999, q1e4, if_true, if_false, Nat.le_refl]
        refine d111n ?_
        try simp (disch := omega) only [hc.1.2.1.all, hc.1.2.2.1, hc.1.2.2.2.1.all, hc.1.2.2.2.all, hc.2, wr_s, in_nI, clN, ti_z, ti_l, true_and, and_true, kI, zI, rI, kL, zL, rL, kR, zR, nnI, nnL, nnR, iL, iR, lI, lR, exi, exl, exv, eq_self, nI_add, nI_mul, nI_sub, nI_ltI, nI_leI, nI_eq, q0, q1, q2, q3, q4, q5, q6, q10, q100, br_Tr, br_Fa, iI_s, iI_n, bI_q0, bI_q1, or_true, true_or, not_true_eq_false, not_false_eq_true, nI_l, ge64, Nat.lt_irrefl, Nat.add_sub_cancel, Nat.not_lt_zero, lN_0, lN_1e4, lN_1e6, lN_1e3, lN_add, lN_mul, lN_ltI, lN_leI, lN_eqI, lN_i, lcE, lcLe, lcLt, lN_div, q7, q12, q20, q99, q200, q999, q1e4, if_true, if_false, Nat.le_refl]
        refine d179 hc hW9 (by omega) hm ?_
        try simp (disch := omega) only [hc.1.2.1.all, hc.1.2.2.1, hc.1.2.2.2.1.all, hc.1.2.2.2.all, hc.2, wr_s, in_nI, clN, ti_z, ti_l, true_and, and_true, kI, zI, rI, kL, zL, rL, kR, zR, nnI, nnL, nnR, iL, iR, lI, lR, exi, exl, exv, eq_self, nI_add, nI_mul, nI_sub, nI_ltI, nI_leI, nI_eq, q0, q1, q2, q3, q4, q5, q6, q10, q100, br_Tr, br_Fa, iI_s, iI_n, bI_q0, bI_q1, or_true, true_or, not_true_eq_false, not_false_eq_true, nI_l, ge64, Nat.lt_irrefl, Nat.add_sub_cancel, Nat.not_lt_zero, lN_0, lN_1e4, lN_1e6, lN_1e3, lN_add, lN_mul, lN_ltI, lN_leI, lN_eqI, lN_i, lcE, lcLe, lcLt, lN_div, q7, q12, q20, q99, q200, q999, q1e4, if_true, if_false, Nat.le_refl]
        exact st (by show (match (buy a h g j).1 with | some t => _ | none => _) = _; rw [hbj])
      | some t =>
        have hbt := hbi t hbj
        rw [hbj] at r1
        try simp (disch := omega) only [enc_some, wr_s, in_nI, clN, ti_z, ti_l, true_and, and_true, kI, zI, rI, kL, zL, rL, kR, zR, nnI, nnL, nnR, iL, iR, lI, lR, exi, exl, exv, eq_self, nI_add, nI_mul, nI_sub, nI_ltI, nI_leI, nI_eq, q0, q1, q2, q3, q4, q5, q6, q10, q100, br_Tr, br_Fa, iI_s, iI_n, bI_q0, bI_q1, or_true, true_or, not_true_eq_false, not_false_eq_true, nI_l, ge64, Nat.lt_irrefl, Nat.add_sub_cancel, Nat.not_lt_zero, lN_0, lN_1e4, lN_1e6, lN_1e3, lN_add, lN_mul, lN_ltI, lN_leI, lN_eqI, lN_i, lcE, lcLe, lcLt, lN_div, q7, q12, q20, q99, q200, q999, q1e4, if_true, if_false, Nat.le_refl]
        refine d111 hc hh hbt.1 hm ?_
        try simp (disch := omega) only [hc.1.2.1.all, hc.1.2.2.1, hc.1.2.2.2.1.all, hc.1.2.2.2.all, hc.2, wr_s, in_nI, clN, ti_z, ti_l, true_and, and_true, kI, zI, rI, kL, zL, rL, kR, zR, nnI, nnL, nnR, iL, iR, lI, lR, exi, exl, exv, eq_self, nI_add, nI_mul, nI_sub, nI_ltI, nI_leI, nI_eq, q0, q1, q2, q3, q4, q5, q6, q10, q100, br_Tr, br_Fa, iI_s, iI_n, bI_q0, bI_q1, or_true, true_or, not_true_eq_false, not_false_eq_true, nI_l, ge64, Nat.lt_irrefl, Nat.add_sub_cancel, Nat.not_lt_zero, lN_0, lN_1e4, lN_1e6, lN_1e3, lN_add, lN_mul, lN_ltI, lN_leI, lN_eqI, lN_i, lcE, lcLe, lcLt, lN_div, q7, q12, q20, q99, q200, q999, q1e4, if_true, if_false, Nat.le_refl]
        have e : buy a h g (j + 1) = if stays a h t (j + 1) = true then buy a h g j else anew a h g (j + 1) := by
          show (match (buy a h g j).1 with | some t => _ | none => _) = _
          rw [hbj]
        refine ax_brc (fun hf => ?_) (fun hf => ?_)
        · refine d179 hc hW9 (by omega) hm ?_
          try simp (disch := omega) only [hc.1.2.1.all, hc.1.2.2.1, hc.1.2.2.2.1.all, hc.1.2.2.2.all, hc.2, wr_s, in_nI, clN, ti_z, ti_l, true_and, and_true, kI, zI, rI, kL, zL, rL, kR, zR, nnI, nnL, nnR, iL, iR, lI, lR, exi, exl, exv, eq_self, nI_add, nI_mul, nI_sub, nI_ltI, nI_leI, nI_eq, q0, q1, q2, q3, q4, q5, q6, q10, q100, br_Tr, br_Fa, iI_s, iI_n, bI_q0, bI_q1, or_true, true_or, not_true_eq_false, not_false_eq_true, nI_l, ge64, Nat.lt_irrefl, Nat.add_sub_cancel, Nat.not_lt_zero, lN_0, lN_1e4, lN_1e6, lN_1e3, lN_add, lN_mul, lN_ltI, lN_leI, lN_eqI, lN_i, lcE, lcLe, lcLt, lN_div, q7, q12, q20, q99, q200, q999, q1e4, if_true, if_false, Nat.le_refl]
          exact st (by rw [e, if_neg (by rw [hf]; exact Bool.false_ne_true)])
        · have fin := fin _ (by rw [e, if_pos (by simpa using hf)])
          rw [hbj] at fin
          try simp (disch := omega) only [nI_pp, hc.1.2.1.all, hc.1.2.2.1, hc.1.2.2.2.1.all, hc.1.2.2.2.all, hc.2, r1, r2, wr_s, in_nI, clN, ti_z, ti_l, true_and, and_true, kI, zI, rI, kL, zL, rL, kR, zR, nnI, nnL, nnR, iL, iR, lI, lR, exi, exl, exv, eq_self, nI_add, nI_mul, nI_ltI, nI_leI, nI_eq, q0, q1, q2, q3, q4, q5, q6, q10, q100, br_Tr, br_Fa, iI_s, iI_n, bI_q0, bI_q1, or_true, true_or, not_true_eq_false, not_false_eq_true, nI_l, ge64, Nat.lt_irrefl, Nat.add_sub_cancel, Nat.not_lt_zero, lN_0, lN_1e4, lN_1e6, lN_1e3, lN_add, lN_mul, lN_ltI, lN_leI, lN_eqI, lN_i, lcE, lcLe, lcLt, lN_div, q7, q12, q20, q99, q200, q999, q1e4, if_true, if_false, Nat.le_refl]
          exact fin
theorem d202 {K : ax_M → Prop} (hw : MW μ N a) (q : ∀ μ', Fr PLy μ μ' → MB μ' N a → K μ') : ax_CV l G 202 [ax_r (some 332)] μ K := by
  have hb := hw.bd
  refine ax_Ct.of (by decide) (Nat.le_of_ble_eq_true rfl) (sg202_0 l G _ 332 _ ?_)
  refine up_to (P := fun t => ∀ μt, Fr PLy μ μt → (∀ i, i < t → ∀ m, m < nMo a → gI μt 334 (12 * i + m) = nI (Sz a i m) ∧ gI μt 335 (12 * i + m) = nI (Sf a i m) ∧ gI μt 336 (12 * i + m) = nI (Pr a i m) ∧ gI μt 337 (12 * i + m) = bI (Tr a i m)) → (ax_Rw l G ax_h202 (ax_E G ax_h202 (fun x μ' => x = none ∧ K μ')) 2 [(0, ax_r (some 332)), (1, ax_i (nI t))] [] 0 0 μt)) (nTh a) (fun μt f hr => ?_) (fun t ht ih μt f hr => ?_) 0 (Nat.zero_le _) μ (Fr.refl _ _) (fun i hi => by omega)
  · have hct : MT μt N a := ⟨hw.fr f (fun b k q => by unfold PLy at q; omega), fun t m ht hm => hr t ht m hm⟩
    refine sg202_2 l G _ 332 _ _ ?_
    try simp (disch := omega) only [hct.1.2.1.all, hct.1.2.2.1, hct.1.2.2.2.1.all, hct.1.2.2.2.all, hct.2, wr_s, in_nI, clN, ti_z, ti_l, true_and, and_true, kI, zI, rI, kL, zL, rL, kR, zR, nnI, nnL, nnR, iL, iR, lI, lR, exi, exl, exv, eq_self, nI_add, nI_mul, nI_sub, nI_ltI, nI_leI, nI_eq, q0, q1, q2, q3, q4, q5, q6, q10, q100, br_Tr, br_Fa, iI_s, iI_n, bI_q0, bI_q1, or_true, true_or, not_true_eq_false, not_false_eq_true, nI_l, ge64, Nat.lt_irrefl, Nat.add_sub_cancel, Nat.not_lt_zero, lN_0, lN_1e4, lN_1e6, lN_1e3, lN_add, lN_mul, lN_ltI, lN_leI, lN_eqI, lN_i, lcE, lcLe, lcLt, lN_div, q7, q12, q20, q99, q200, q999, q1e4, if_true, if_false, Nat.le_refl]
    refine up_to (P := fun h => ∀ μt, Fr PLy μ μt → MT μt N a → (∀ i, i < h → ∀ g m, g < nGr a → m < nMo a → 0 < hW a i g → gI μt 338 (12 * (4 * i + g) + m) = enc (buy a i g m).1 ∧ gI μt 339 (12 * (4 * i + g) + m) = nI (buy a i g m).2) → (ax_Rw l G ax_h202 (ax_E G ax_h202 (fun x μ' => x = none ∧ K μ')) 26 [(0, ax_r (some 332)), (1, ax_i (nI h))] [] 0 0 μt)) (nHo a) (fun μt f hct hr => ?_) (fun h hh ih μt f hct hr => ?_) 0 (Nat.zero_le _) μt f hct (fun i hi => by omega)
    · refine sg202_26 l G _ 332 _ _ ?_
      try simp (disch := omega) only [hct.1.2.1.all, hct.1.2.2.1, hct.1.2.2.2.1.all, hct.1.2.2.2.all, hct.2, wr_s, in_nI, clN, ti_z, ti_l, true_and, and_true, kI, zI, rI, kL, zL, rL, kR, zR, nnI, nnL, nnR, iL, iR, lI, lR, exi, exl, exv, eq_self, nI_add, nI_mul, nI_sub, nI_ltI, nI_leI, nI_eq, q0, q1, q2, q3, q4, q5, q6, q10, q100, br_Tr, br_Fa, iI_s, iI_n, bI_q0, bI_q1, or_true, true_or, not_true_eq_false, not_false_eq_true, nI_l, ge64, Nat.lt_irrefl, Nat.add_sub_cancel, Nat.not_lt_zero, lN_0, lN_1e4, lN_1e6, lN_1e3, lN_add, lN_mul, lN_ltI, lN_leI, lN_eqI, lN_i, lcE, lcLe, lcLt, lN_div, q7, q12, q20, q99, q200, q999, q1e4, if_true, if_false, Nat.le_refl]
      exact q μt f ⟨hct, fun h g m hh hg hm h0 => hr h hh g m hg hm h0⟩
    · have hhw := (hct.1.1.hw hh).2.2
      refine sg202_26 l G _ 332 _ _ ?_
      try simp (disch := omega) only [hct.1.2.1.all, hct.1.2.2.1, hct.1.2.2.2.1.all, hct.1.2.2.2.all, hct.2, hh, wr_s, in_nI, clN, ti_z, ti_l, true_and, and_true, kI, zI, rI, kL, zL, rL, kR, zR, nnI, nnL, nnR, iL, iR, lI, lR, exi, exl, exv, eq_self, nI_add, nI_mul, nI_sub, nI_ltI, nI_leI, nI_eq, q0, q1, q2, q3, q4, q5, q6, q10, q100, br_Tr, br_Fa, iI_s, iI_n, bI_q0, bI_q1, or_true, true_or, not_true_eq_false, not_false_eq_true, nI_l, ge64, Nat.lt_irrefl, Nat.add_sub_cancel, Nat.not_lt_zero, lN_0, lN_1e4, lN_1e6, lN_1e3, lN_add, lN_mul, lN_ltI, lN_leI, lN_eqI, lN_i, lcE, lcLe, lcLt, lN_div, q7, q12, q20, q99, q200, q999, q1e4, if_true, if_false, Nat.le_refl]
      refine up_to (P := fun g => ∀ μt, Fr PLy μ μt → MT μt N a → (∀ i, i < h → ∀ g m, g < nGr a → m < nMo a → 0 < hW a i g → gI μt 338 (12 * (4 * i + g) + m) = enc (buy a i g m).1 ∧ gI μt 339 (12 * (4 * i + g) + m) = nI (buy a i g m).2) → (∀ j, j < g → ∀ m, m < nMo a → 0 < hW a h j → gI μt 338 (12 * (4 * h + j) + m) = enc (buy a h j m).1 ∧ gI μt 339 (12 * (4 * h + j) + m) = nI (buy a h j m).2) → (ax_Rw l G ax_h202 (ax_E G ax_h202 (fun x μ' => x = none ∧ K μ')) 39 [(0, ax_r (some 332)), (1, ax_i (nI h)), (2, ax_i (nI g))] [] 0 0 μt)) (nGr a) (fun μt f hct hr hr' => ?_) (fun g hg ih' μt f hct hr hr' => ?_) 0 (Nat.zero_le _) μt f hct hr (fun i hi => by omega)
      · refine sg202_39 l G _ 332 _ _ _ ?_
        try simp (disch := omega) only [hct.1.2.1.all, hct.1.2.2.1, hct.1.2.2.2.1.all, hct.1.2.2.2.all, hct.2, wr_s, in_nI, clN, ti_z, ti_l, true_and, and_true, kI, zI, rI, kL, zL, rL, kR, zR, nnI, nnL, nnR, iL, iR, lI, lR, exi, exl, exv, eq_self, nI_add, nI_mul, nI_sub, nI_ltI, nI_leI, nI_eq, q0, q1, q2, q3, q4, q5, q6, q10, q100, br_Tr, br_Fa, iI_s, iI_n, bI_q0, bI_q1, or_true, true_or, not_true_eq_false, not_false_eq_true, nI_l, ge64, Nat.lt_irrefl, Nat.add_sub_cancel, Nat.not_lt_zero, lN_0, lN_1e4, lN_1e6, lN_1e3, lN_add, lN_mul, lN_ltI, lN_leI, lN_eqI, lN_i, lcE, lcLe, lcLt, lN_div, q7, q12, q20, q99, q200, q999, q1e4, if_true, if_false, Nat.le_refl]
        exact ih μt f hct (lt_s hr (fun g m hg hm h0 => hr' g hg m hm h0))
      · have hw9 := hhw g (by omega)
        refine sg202_39 l G _ 332 _ _ _ ?_
        try simp (disch := omega) only [hct.1.2.1.all, hct.1.2.2.1, hct.1.2.2.2.1.all, hct.1.2.2.2.all, hct.2, hg, wr_s, in_nI, clN, ti_z, ti_l, true_and, and_true, kI, zI, rI, kL, zL, rL, kR, zR, nnI, nnL, nnR, iL, iR, lI, lR, exi, exl, exv, eq_self, nI_add, nI_mul, nI_sub, nI_ltI, nI_leI, nI_eq, q0, q1, q2, q3, q4, q5, q6, q10, q100, br_Tr, br_Fa, iI_s, iI_n, bI_q0, bI_q1, or_true, true_or, not_true_eq_false, not_false_eq_true, nI_l, ge64, Nat.lt_irrefl, Nat.add_sub_cancel, Nat.not_lt_zero, lN_0, lN_1e4, lN_1e6, lN_1e3, lN_add, lN_mul, lN_ltI, lN_leI, lN_eqI, lN_i, lcE, lcLe, lcLt, lN_div, q7, q12, q20, q99, q200, q999, q1e4, if_true, if_false, Nat.le_refl]
        refine ax_brc (fun hz => ?_) (fun hz => ?_)
        · exact ih' μt f hct hr (lt_s hr' (fun m hm h0 => by omega))
        · refine d188 hct hh hg (by omega) (fun μ' f' h' => ?_)
          refine ih' μ' (f.trans (f'.mono (fun b k q => by have := q.1; unfold PLy; omega))) (hct.fr f' (fun b k q => by have := q.1; omega)) (fun i hi j m hj hm h0 => ?_) (lt_s (fun j hj m hm h0 => ?_) (fun m hm _ => h' m hm))
          · rw [f'.I (fun q => by unfold PbM at q; omega), f'.I (fun q => by unfold PbM at q; omega)]; exact hr i hi j m hj hm h0
          · rw [f'.I (fun q => by unfold PbM at q; omega), f'.I (fun q => by unfold PbM at q; omega)]; exact hr' j hj m hm h0
  · have hw := hw.fr f (fun b k q => by unfold PLy at q; omega)
    refine sg202_2 l G _ 332 _ _ ?_
    try simp (disch := omega) only [hw.2.1.all, hw.2.2.1, hw.2.2.2.1.all, hw.2.2.2.all, ht, wr_s, in_nI, clN, ti_z, ti_l, true_and, and_true, kI, zI, rI, kL, zL, rL, kR, zR, nnI, nnL, nnR, iL, iR, lI, lR, exi, exl, exv, eq_self, nI_add, nI_mul, nI_sub, nI_ltI, nI_leI, nI_eq, q0, q1, q2, q3, q4, q5, q6, q10, q100, br_Tr, br_Fa, iI_s, iI_n, bI_q0, bI_q1, or_true, true_or, not_true_eq_false, not_false_eq_true, nI_l, ge64, Nat.lt_irrefl, Nat.add_sub_cancel, Nat.not_lt_zero, lN_0, lN_1e4, lN_1e6, lN_1e3, lN_add, lN_mul, lN_ltI, lN_leI, lN_eqI, lN_i, lcE, lcLe, lcLt, lN_div, q7, q12, q20, q99, q200, q999, q1e4, if_true, if_false, Nat.le_refl]
    refine d114 hw ht (fun μ' f' h' => ?_)
    refine ih μ' (f.trans (f'.mono (fun b k q => by have := q.1; unfold PLy; omega))) (lt_s (fun i hi m hm => ?_) h')
    rw [f'.I (fun q => by unfold PTm at q; omega), f'.I (fun q => by unfold PTm at q; omega), f'.I (fun q => by unfold PTm at q; omega), f'.I (fun q => by unfold PTm at q; omega)]
    exact hr i hi m hm
end F2
