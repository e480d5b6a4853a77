/-! the model: queries -/
section F6
variable {l : Launch} {G : ax_G} {μ : ax_M} {st : St}
theorem m158 {x y : Int32} {K : Int32 → ax_M → Prop} (hx : Mx μ st) (q : ∀ μ', OutM μ μ' → Mx μ' (aSpent st x y).2 → K (aSpent st x y).1 μ') : ax_CI l G 158 [ax_r (some 332), ax_i x, ax_i y] μ K := by
  have hb := hx.bd
  unfold aSpent aQ at q
  refine ax_Ct.of (by decide) (Nat.le_of_ble_eq_true rfl) (sg158_0 l G _ 332 _ _ _ ?_)
  try simp (disch := omega) only [hx.1.all, wr_s, in_nI, clN, ti_z, ti_l, true_and, and_true, kI, zI, rI, kL, zL, rL, kR, zR, nnI, nnL, nnR, iL, iR, lI, lR, exi, exl, exv, eq_self, nI_add, nI_mul, nI_sub, nI_ltI, nI_leI, nI_eq, q0, q1, q2, q3, q4, q5, q6, q10, q100, br_Tr, br_Fa, iI_s, iI_n, bI_q0, bI_q1, or_true, true_or, not_true_eq_false, not_false_eq_true, nI_l, ge64, Nat.lt_irrefl, Nat.add_sub_cancel, Nat.not_lt_zero, lN_0, lN_1e4, lN_1e6, lN_1e3, lN_add, lN_mul, lN_ltI, lN_leI, lN_eqI, lN_i, lcE, lcLe, lcLt, lN_div, q7, q12, q20, q99, q200, q999, q1e4, if_true, if_false, Nat.le_refl]
  refine d60 hx.s0 ?_
  try simp (disch := omega) only [hx.1.all, wr_s, in_nI, clN, ti_z, ti_l, true_and, and_true, kI, zI, rI, kL, zL, rL, kR, zR, nnI, nnL, nnR, iL, iR, lI, lR, exi, exl, exv, eq_self, nI_add, nI_mul, nI_sub, nI_ltI, nI_leI, nI_eq, q0, q1, q2, q3, q4, q5, q6, q10, q100, br_Tr, br_Fa, iI_s, iI_n, bI_q0, bI_q1, or_true, true_or, not_true_eq_false, not_false_eq_true, nI_l, ge64, Nat.lt_irrefl, Nat.add_sub_cancel, Nat.not_lt_zero, lN_0, lN_1e4, lN_1e6, lN_1e3, lN_add, lN_mul, lN_ltI, lN_leI, lN_eqI, lN_i, lcE, lcLe, lcLt, lN_div, q7, q12, q20, q99, q200, q999, q1e4, if_true, if_false, Nat.le_refl]
  cases h1 : inN x (cn st 5)
  · simp only [h1, Bool.and_false, Bool.false_and, Bool.and_true, Bool.true_and, cond_false, cond_true] at q
    exact ax_brt rfl (d68 hx (by decide) q)
  simp only [h1, Bool.and_false, Bool.false_and, Bool.and_true, Bool.true_and, cond_false, cond_true] at q
  refine ax_brf (by decide) ?_
  refine d62 hx.s0 ?_
  try simp (disch := omega) only [hx.1.all, wr_s, in_nI, clN, ti_z, ti_l, true_and, and_true, kI, zI, rI, kL, zL, rL, kR, zR, nnI, nnL, nnR, iL, iR, lI, lR, exi, exl, exv, eq_self, nI_add, nI_mul, nI_sub, nI_ltI, nI_leI, nI_eq, q0, q1, q2, q3, q4, q5, q6, q10, q100, br_Tr, br_Fa, iI_s, iI_n, bI_q0, bI_q1, or_true, true_or, not_true_eq_false, not_false_eq_true, nI_l, ge64, Nat.lt_irrefl, Nat.add_sub_cancel, Nat.not_lt_zero, lN_0, lN_1e4, lN_1e6, lN_1e3, lN_add, lN_mul, lN_ltI, lN_leI, lN_eqI, lN_i, lcE, lcLe, lcLt, lN_div, q7, q12, q20, q99, q200, q999, q1e4, if_true, if_false, Nat.le_refl]
  cases h2 : inN y (cn st 0)
  · simp only [h2, Bool.and_false, Bool.false_and, Bool.and_true, Bool.true_and, cond_false, cond_true] at q
    exact ax_brt rfl (d68 hx (by decide) q)
  simp only [h2, Bool.and_false, Bool.false_and, Bool.and_true, Bool.true_and, cond_false, cond_true] at q
  refine ax_brf (by decide) ?_
  obtain ⟨h, hh1, rfl⟩ := inN_t (by omega) h1
  obtain ⟨m, hh2, rfl⟩ := inN_t (by omega) h2
  obtain ⟨N, hM0, -, -, he⟩ := hx.mb hh1
  have hM := hM0.s0 (v := nI 0)
  have hbd := hM0.bd
  simp only [cl_nI (show h < 2 ^ 31 by omega), cl_nI (show m < 2 ^ 31 by omega)] at q
  refine d107 hM (by omega) (by omega) (by omega) (fun g t hg e => lst_tr (buy_in hM.1.1.1 (by omega) (show g < 4 by have := hM.bd; omega) m |>.1 t e).2.2) ?_
  try simp (disch := omega) only [hM0.1.1.2.1.all, hM0.1.1.2.2.1, hM0.1.1.2.2.2.1.all, hM0.1.1.2.2.2.all, hM0.1.2, hM0.2, wr_s, in_nI, clN, ti_z, ti_l, true_and, and_true, kI, zI, rI, kL, zL, rL, kR, zR, nnI, nnL, nnR, iL, iR, lI, lR, exi, exl, exv, eq_self, nI_add, nI_mul, nI_sub, nI_ltI, nI_leI, nI_eq, q0, q1, q2, q3, q4, q5, q6, q10, q100, br_Tr, br_Fa, iI_s, iI_n, bI_q0, bI_q1, or_true, true_or, not_true_eq_false, not_false_eq_true, nI_l, ge64, Nat.lt_irrefl, Nat.add_sub_cancel, Nat.not_lt_zero, lN_0, lN_1e4, lN_1e6, lN_1e3, lN_add, lN_mul, lN_ltI, lN_leI, lN_eqI, lN_i, lcE, lcLe, lcLt, lN_div, q7, q12, q20, q99, q200, q999, q1e4, if_true, if_false, Nat.le_refl]
  exact d51 hx q

theorem m205 {x y : Int32} {K : Int32 → ax_M → Prop} (hx : Mx μ st) (q : ∀ μ', OutM μ μ' → Mx μ' (aTruly st x y).2 → K (aTruly st x y).1 μ') : ax_CI l G 205 [ax_r (some 332), ax_i x, ax_i y] μ K := by
  have hb := hx.bd
  unfold aTruly aQ at q
  refine ax_Ct.of (by decide) (Nat.le_of_ble_eq_true rfl) (sg205_0 l G _ 332 _ _ _ ?_)
  try simp (disch := omega) only [hx.1.all, wr_s, in_nI, clN, ti_z, ti_l, true_and, and_true, kI, zI, rI, kL, zL, rL, kR, zR, nnI, nnL, nnR, iL, iR, lI, lR, exi, exl, exv, eq_self, nI_add, nI_mul, nI_sub, nI_ltI, nI_leI, nI_eq, q0, q1, q2, q3, q4, q5, q6, q10, q100, br_Tr, br_Fa, iI_s, iI_n, bI_q0, bI_q1, or_true, true_or, not_true_eq_false, not_false_eq_true, nI_l, ge64, Nat.lt_irrefl, Nat.add_sub_cancel, Nat.not_lt_zero, lN_0, lN_1e4, lN_1e6, lN_1e3, lN_add, lN_mul, lN_ltI, lN_leI, lN_eqI, lN_i, lcE, lcLe, lcLt, lN_div, q7, q12, q20, q99, q200, q999, q1e4, if_true, if_false, Nat.le_refl]
  refine d60 hx.s0 ?_
  try simp (disch := omega) only [hx.1.all, wr_s, in_nI, clN, ti_z, ti_l, true_and, and_true, kI, zI, rI, kL, zL, rL, kR, zR, nnI, nnL, nnR, iL, iR, lI, lR, exi, exl, exv, eq_self, nI_add, nI_mul, nI_sub, nI_ltI, nI_leI, nI_eq, q0, q1, q2, q3, q4, q5, q6, q10, q100, br_Tr, br_Fa, iI_s, iI_n, bI_q0, bI_q1, or_true, true_or, not_true_eq_false, not_false_eq_true, nI_l, ge64, Nat.lt_irrefl, Nat.add_sub_cancel, Nat.not_lt_zero, lN_0, lN_1e4, lN_1e6, lN_1e3, lN_add, lN_mul, lN_ltI, lN_leI, lN_eqI, lN_i, lcE, lcLe, lcLt, lN_div, q7, q12, q20, q99, q200, q999, q1e4, if_true, if_false, Nat.le_refl]
  cases h1 : inN x (cn st 5)
  · simp only [h1, Bool.and_false, Bool.false_and, Bool.and_true, Bool.true_and, cond_false, cond_true] at q
    exact ax_brt rfl (d68 hx (by decide) q)
  simp only [h1, Bool.and_false, Bool.false_and, Bool.and_true, Bool.true_and, cond_false, cond_true] at q
  refine ax_brf (by decide) ?_
  refine d62 hx.s0 ?_
  try simp (disch := omega) only [hx.1.all, wr_s, in_nI, clN, ti_z, ti_l, true_and, and_true, kI, zI, rI, kL, zL, rL, kR, zR, nnI, nnL, nnR, iL, iR, lI, lR, exi, exl, exv, eq_self, nI_add, nI_mul, nI_sub, nI_ltI, nI_leI, nI_eq, q0, q1, q2, q3, q4, q5, q6, q10, q100, br_Tr, br_Fa, iI_s, iI_n, bI_q0, bI_q1, or_true, true_or, not_true_eq_false, not_false_eq_true, nI_l, ge64, Nat.lt_irrefl, Nat.add_sub_cancel, Nat.not_lt_zero, lN_0, lN_1e4, lN_1e6, lN_1e3, lN_add, lN_mul, lN_ltI, lN_leI, lN_eqI, lN_i, lcE, lcLe, lcLt, lN_div, q7, q12, q20, q99, q200, q999, q1e4, if_true, if_false, Nat.le_refl]
  cases h2 : inN y (cn st 0)
  · simp only [h2, Bool.and_false, Bool.false_and, Bool.and_true, Bool.true_and, cond_false, cond_true] at q
    exact ax_brt rfl (d68 hx (by decide) q)
  simp only [h2, Bool.and_false, Bool.false_and, Bool.and_true, Bool.true_and, cond_false, cond_true] at q
  refine ax_brf (by decide) ?_
  obtain ⟨h, hh1, rfl⟩ := inN_t (by omega) h1
  obtain ⟨m, hh2, rfl⟩ := inN_t (by omega) h2
  obtain ⟨N, hM0, -, -, he⟩ := hx.mb hh1
  have hM := hM0.s0 (v := nI 0)
  have hbd := hM0.bd
  simp only [cl_nI (show h < 2 ^ 31 by omega), cl_nI (show m < 2 ^ 31 by omega)] at q
  refine d191 hM.1 (by omega) (by omega) ?_
  try simp (disch := omega) only [hM0.1.1.2.1.all, hM0.1.1.2.2.1, hM0.1.1.2.2.2.1.all, hM0.1.1.2.2.2.all, hM0.1.2, hM0.2, wr_s, in_nI, clN, ti_z, ti_l, true_and, and_true, kI, zI, rI, kL, zL, rL, kR, zR, nnI, nnL, nnR, iL, iR, lI, lR, exi, exl, exv, eq_self, nI_add, nI_mul, nI_sub, nI_ltI, nI_leI, nI_eq, q0, q1, q2, q3, q4, q5, q6, q10, q100, br_Tr, br_Fa, iI_s, iI_n, bI_q0, bI_q1, or_true, true_or, not_true_eq_false, not_false_eq_true, nI_l, ge64, Nat.lt_irrefl, Nat.add_sub_cancel, Nat.not_lt_zero, lN_0, lN_1e4, lN_1e6, lN_1e3, lN_add, lN_mul, lN_ltI, lN_leI, lN_eqI, lN_i, lcE, lcLe, lcLt, lN_div, q7, q12, q20, q99, q200, q999, q1e4, if_true, if_false, Nat.le_refl]
  exact d51 hx q

theorem m220 {x y : Int32} {K : Int32 → ax_M → Prop} (hx : Mx μ st) (q : ∀ μ', OutM μ μ' → Mx μ' (aLive st x y).2 → K (aLive st x y).1 μ') : ax_CI l G 220 [ax_r (some 332), ax_i x, ax_i y] μ K := by
  have hb := hx.bd
  unfold aLive aQ at q
  refine ax_Ct.of (by decide) (Nat.le_of_ble_eq_true rfl) (sg220_0 l G _ 332 _ _ _ ?_)
  try simp (disch := omega) only [hx.1.all, wr_s, in_nI, clN, ti_z, ti_l, true_and, and_true, kI, zI, rI, kL, zL, rL, kR, zR, nnI, nnL, nnR, iL, iR, lI, lR, exi, exl, exv, eq_self, nI_add, nI_mul, nI_sub, nI_ltI, nI_leI, nI_eq, q0, q1, q2, q3, q4, q5, q6, q10, q100, br_Tr, br_Fa, iI_s, iI_n, bI_q0, bI_q1, or_true, true_or, not_true_eq_false, not_false_eq_true, nI_l, ge64, Nat.lt_irrefl, Nat.add_sub_cancel, Nat.not_lt_zero, lN_0, lN_1e4, lN_1e6, lN_1e3, lN_add, lN_mul, lN_ltI, lN_leI, lN_eqI, lN_i, lcE, lcLe, lcLt, lN_div, q7, q12, q20, q99, q200, q999, q1e4, if_true, if_false, Nat.le_refl]
  refine d60 hx.s0 ?_
  try simp (disch := omega) only [hx.1.all, wr_s, in_nI, clN, ti_z, ti_l, true_and, and_true, kI, zI, rI, kL, zL, rL, kR, zR, nnI, nnL, nnR, iL, iR, lI, lR, exi, exl, exv, eq_self, nI_add, nI_mul, nI_sub, nI_ltI, nI_leI, nI_eq, q0, q1, q2, q3, q4, q5, q6, q10, q100, br_Tr, br_Fa, iI_s, iI_n, bI_q0, bI_q1, or_true, true_or, not_true_eq_false, not_false_eq_true, nI_l, ge64, Nat.lt_irrefl, Nat.add_sub_cancel, Nat.not_lt_zero, lN_0, lN_1e4, lN_1e6, lN_1e3, lN_add, lN_mul, lN_ltI, lN_leI, lN_eqI, lN_i, lcE, lcLe, lcLt, lN_div, q7, q12, q20, q99, q200, q999, q1e4, if_true, if_false, Nat.le_refl]
  cases h1 : inN x (cn st 5)
  · simp only [h1, Bool.and_false, Bool.false_and, Bool.and_true, Bool.true_and, cond_false, cond_true] at q
    exact ax_brt rfl (d68 hx (by decide) q)
  simp only [h1, Bool.and_false, Bool.false_and, Bool.and_true, Bool.true_and, cond_false, cond_true] at q
  refine ax_brf (by decide) ?_
  refine d62 hx.s0 ?_
  try simp (disch := omega) only [hx.1.all, wr_s, in_nI, clN, ti_z, ti_l, true_and, and_true, kI, zI, rI, kL, zL, rL, kR, zR, nnI, nnL, nnR, iL, iR, lI, lR, exi, exl, exv, eq_self, nI_add, nI_mul, nI_sub, nI_ltI, nI_leI, nI_eq, q0, q1, q2, q3, q4, q5, q6, q10, q100, br_Tr, br_Fa, iI_s, iI_n, bI_q0, bI_q1, or_true, true_or, not_true_eq_false, not_false_eq_true, nI_l, ge64, Nat.lt_irrefl, Nat.add_sub_cancel, Nat.not_lt_zero, lN_0, lN_1e4, lN_1e6, lN_1e3, lN_add, lN_mul, lN_ltI, lN_leI, lN_eqI, lN_i, lcE, lcLe, lcLt, lN_div, q7, q12, q20, q99, q200, q999, q1e4, if_true, if_false, Nat.le_refl]
  cases h2 : inN y (cn st 0)
  · simp only [h2, Bool.and_false, Bool.false_and, Bool.and_true, Bool.true_and, cond_false, cond_true] at q
    exact ax_brt rfl (d68 hx (by decide) q)
  simp only [h2, Bool.and_false, Bool.false_and, Bool.and_true, Bool.true_and, cond_false, cond_true] at q
  refine ax_brf (by decide) ?_
  obtain ⟨h, hh1, rfl⟩ := inN_t (by omega) h1
  obtain ⟨m, hh2, rfl⟩ := inN_t (by omega) h2
  obtain ⟨N, hM0, -, -, he⟩ := hx.mb hh1
  have hM := hM0.s0 (v := nI 0)
  have hbd := hM0.bd
  simp only [cl_nI (show h < 2 ^ 31 by omega), cl_nI (show m < 2 ^ 31 by omega)] at q
  refine d203 hM.1 (by omega) (by omega) ?_
  try simp (disch := omega) only [hM0.1.1.2.1.all, hM0.1.1.2.2.1, hM0.1.1.2.2.2.1.all, hM0.1.1.2.2.2.all, hM0.1.2, hM0.2, wr_s, in_nI, clN, ti_z, ti_l, true_and, and_true, kI, zI, rI, kL, zL, rL, kR, zR, nnI, nnL, nnR, iL, iR, lI, lR, exi, exl, exv, eq_self, nI_add, nI_mul, nI_sub, nI_ltI, nI_leI, nI_eq, q0, q1, q2, q3, q4, q5, q6, q10, q100, br_Tr, br_Fa, iI_s, iI_n, bI_q0, bI_q1, or_true, true_or, not_true_eq_false, not_false_eq_true, nI_l, ge64, Nat.lt_irrefl, Nat.add_sub_cancel, Nat.not_lt_zero, lN_0, lN_1e4, lN_1e6, lN_1e3, lN_add, lN_mul, lN_ltI, lN_leI, lN_eqI, lN_i, lcE, lcLe, lcLt, lN_div, q7, q12, q20, q99, q200, q999, q1e4, if_true, if_false, Nat.le_refl]
  exact d51 hx q

theorem m153 {x y : Int32} {K : Int32 → ax_M → Prop} (hx : Mx μ st) (q : ∀ μ', OutM μ μ' → Mx μ' (aMissed st x y).2 → K (aMissed st x y).1 μ') : ax_CI l G 153 [ax_r (some 332), ax_i x, ax_i y] μ K := by
  have hb := hx.bd
  unfold aMissed aQ at q
  refine ax_Ct.of (by decide) (Nat.le_of_ble_eq_true rfl) (sg153_0 l G _ 332 _ _ _ ?_)
  try simp (disch := omega) only [hx.1.all, wr_s, in_nI, clN, ti_z, ti_l, true_and, and_true, kI, zI, rI, kL, zL, rL, kR, zR, nnI, nnL, nnR, iL, iR, lI, lR, exi, exl, exv, eq_self, nI_add, nI_mul, nI_sub, nI_ltI, nI_leI, nI_eq, q0, q1, q2, q3, q4, q5, q6, q10, q100, br_Tr, br_Fa, iI_s, iI_n, bI_q0, bI_q1, or_true, true_or, not_true_eq_false, not_false_eq_true, nI_l, ge64, Nat.lt_irrefl, Nat.add_sub_cancel, Nat.not_lt_zero, lN_0, lN_1e4, lN_1e6, lN_1e3, lN_add, lN_mul, lN_ltI, lN_leI, lN_eqI, lN_i, lcE, lcLe, lcLt, lN_div, q7, q12, q20, q99, q200, q999, q1e4, if_true, if_false, Nat.le_refl]
  refine d60 hx.s0 ?_
  try simp (disch := omega) only [hx.1.all, wr_s, in_nI, clN, ti_z, ti_l, true_and, and_true, kI, zI, rI, kL, zL, rL, kR, zR, nnI, nnL, nnR, iL, iR, lI, lR, exi, exl, exv, eq_self, nI_add, nI_mul, nI_sub, nI_ltI, nI_leI, nI_eq, q0, q1, q2, q3, q4, q5, q6, q10, q100, br_Tr, br_Fa, iI_s, iI_n, bI_q0, bI_q1, or_true, true_or, not_true_eq_false, not_false_eq_true, nI_l, ge64, Nat.lt_irrefl, Nat.add_sub_cancel, Nat.not_lt_zero, lN_0, lN_1e4, lN_1e6, lN_1e3, lN_add, lN_mul, lN_ltI, lN_leI, lN_eqI, lN_i, lcE, lcLe, lcLt, lN_div, q7, q12, q20, q99, q200, q999, q1e4, if_true, if_false, Nat.le_refl]
  cases h1 : inN x (cn st 5)
  · simp only [h1, Bool.and_false, Bool.false_and, Bool.and_true, Bool.true_and, cond_false, cond_true] at q
    exact ax_brt rfl (d68 hx (by decide) q)
  simp only [h1, Bool.and_false, Bool.false_and, Bool.and_true, Bool.true_and, cond_false, cond_true] at q
  refine ax_brf (by decide) ?_
  refine d62 hx.s0 ?_
  try simp (disch := omega) only [hx.1.all, wr_s, in_nI, clN, ti_z, ti_l, true_and, and_true, kI, zI, rI, kL, zL, rL, kR, zR, nnI, nnL, nnR, iL, iR, lI, lR, exi, exl, exv, eq_self, nI_add, nI_mul, nI_sub, nI_ltI, nI_leI, nI_eq, q0, q1, q2, q3, q4, q5, q6, q10, q100, br_Tr, br_Fa, iI_s, iI_n, bI_q0, bI_q1, or_true, true_or, not_true_eq_false, not_false_eq_true, nI_l, ge64, Nat.lt_irrefl, Nat.add_sub_cancel, Nat.not_lt_zero, lN_0, lN_1e4, lN_1e6, lN_1e3, lN_add, lN_mul, lN_ltI, lN_leI, lN_eqI, lN_i, lcE, lcLe, lcLt, lN_div, q7, q12, q20, q99, q200, q999, q1e4, if_true, if_false, Nat.le_refl]
  cases h2 : inN y (cn st 0)
  · simp only [h2, Bool.and_false, Bool.false_and, Bool.and_true, Bool.true_and, cond_false, cond_true] at q
    exact ax_brt rfl (d68 hx (by decide) q)
  simp only [h2, Bool.and_false, Bool.false_and, Bool.and_true, Bool.true_and, cond_false, cond_true] at q
  refine ax_brf (by decide) ?_
  obtain ⟨h, hh1, rfl⟩ := inN_t (by omega) h1
  obtain ⟨m, hh2, rfl⟩ := inN_t (by omega) h2
  obtain ⟨N, hM0, -, -, he⟩ := hx.mb hh1
  have hM := hM0.s0 (v := nI 0)
  have hbd := hM0.bd
  simp only [cl_nI (show h < 2 ^ 31 by omega), cl_nI (show m < 2 ^ 31 by omega)] at q
  have ha := hM.1.1.1
  refine up_to (P := fun g => (ax_Rw l G ax_h153 (ax_E G ax_h153 (fun x μ' => ∃ v : Int32, x = some (ax_i v) ∧ K v μ')) 32 [(0, ax_r (some 332)), (1, ax_i (nI h)), (2, ax_i (nI m)), (3, ax_i (nI (sumN (mis1 (ldo st) h m) g))), (4, ax_i (nI g))] [] 0 0 (sI μ 332 0 (nI 0)))) (nGr (ldo st)) ?_ (fun g hg ih => ?_) 0 (Nat.zero_le _)
  · refine sg153_32 l G _ 332 _ _ _ _ _ ?_
    try simp (disch := omega) only [hM0.1.1.2.1.all, hM0.1.1.2.2.1, hM0.1.1.2.2.2.1.all, hM0.1.1.2.2.2.all, hM0.1.2, hM0.2, wr_s, in_nI, clN, ti_z, ti_l, true_and, and_true, kI, zI, rI, kL, zL, rL, kR, zR, nnI, nnL, nnR, iL, iR, lI, lR, exi, exl, exv, eq_self, nI_add, nI_mul, nI_sub, nI_ltI, nI_leI, nI_eq, q0, q1, q2, q3, q4, q5, q6, q10, q100, br_Tr, br_Fa, iI_s, iI_n, bI_q0, bI_q1, or_true, true_or, not_true_eq_false, not_false_eq_true, nI_l, ge64, Nat.lt_irrefl, Nat.add_sub_cancel, Nat.not_lt_zero, lN_0, lN_1e4, lN_1e6, lN_1e3, lN_add, lN_mul, lN_ltI, lN_leI, lN_eqI, lN_i, lcE, lcLe, lcLt, lN_div, q7, q12, q20, q99, q200, q999, q1e4, if_true, if_false, Nat.le_refl]
    exact d51 hx q
  · have hw := (ha.hw (show h < nHo (ldo st) by omega)).2.2 g (by omega)
    have hbi := (buy_in ha (show h < nHo (ldo st) by omega) (show g < 4 by omega) m).1
    have hb9 := (buy_in ha (show h < nHo (ldo st) by omega) (show g < 4 by omega) m).2.1
    rw [sumN_s] at ih
    refine sg153_32 l G _ 332 _ _ _ _ _ ?_
    try simp (disch := omega) only [hM0.1.1.2.1.all, hM0.1.1.2.2.1, hM0.1.1.2.2.2.1.all, hM0.1.1.2.2.2.all, hM0.1.2, hM0.2, hg, wr_s, in_nI, clN, ti_z, ti_l, true_and, and_true, kI, zI, rI, kL, zL, rL, kR, zR, nnI, nnL, nnR, iL, iR, lI, lR, exi, exl, exv, eq_self, nI_add, nI_mul, nI_sub, nI_ltI, nI_leI, nI_eq, q0, q1, q2, q3, q4, q5, q6, q10, q100, br_Tr, br_Fa, iI_s, iI_n, bI_q0, bI_q1, or_true, true_or, not_true_eq_false, not_false_eq_true, nI_l, ge64, Nat.lt_irrefl, Nat.add_sub_cancel, Nat.not_lt_zero, lN_0, lN_1e4, lN_1e6, lN_1e3, lN_add, lN_mul, lN_ltI, lN_leI, lN_eqI, lN_i, lcE, lcLe, lcLt, lN_div, q7, q12, q20, q99, q200, q999, q1e4, if_true, if_false, Nat.le_refl]
    refine d65 hM.1.1 (by omega) hg ?_
    try simp (disch := omega) only [hM0.1.1.2.1.all, hM0.1.1.2.2.1, hM0.1.1.2.2.2.1.all, hM0.1.1.2.2.2.all, hM0.1.2, hM0.2, wr_s, in_nI, clN, ti_z, ti_l, true_and, and_true, kI, zI, rI, kL, zL, rL, kR, zR, nnI, nnL, nnR, iL, iR, lI, lR, exi, exl, exv, eq_self, nI_add, nI_mul, nI_sub, nI_ltI, nI_leI, nI_eq, q0, q1, q2, q3, q4, q5, q6, q10, q100, br_Tr, br_Fa, iI_s, iI_n, bI_q0, bI_q1, or_true, true_or, not_true_eq_false, not_false_eq_true, nI_l, ge64, Nat.lt_irrefl, Nat.add_sub_cancel, Nat.not_lt_zero, lN_0, lN_1e4, lN_1e6, lN_1e3, lN_add, lN_mul, lN_ltI, lN_leI, lN_eqI, lN_i, lcE, lcLe, lcLt, lN_div, q7, q12, q20, q99, q200, q999, q1e4, if_true, if_false, Nat.le_refl]
    refine ax_brc (fun h1 => ?_) (fun h1 => ?_)
    · have h2 : hW (ldo st) h g = 0 := by have := of_decide_eq_false h1; omega
      rw [show mis1 (ldo st) h m g = 0 by unfold mis1; rw [h2]; omega] at ih
      exact ih
    · have h2 : 0 < hW (ldo st) h g := Nat.pos_of_ne_zero (by simpa using h1)
      refine d72 ?_
      try simp (disch := omega) only [hM0.1.1.2.1.all, hM0.1.1.2.2.1, hM0.1.1.2.2.2.1.all, hM0.1.1.2.2.2.all, hM0.1.2, hM0.2, wr_s, in_nI, clN, ti_z, ti_l, true_and, and_true, kI, zI, rI, kL, zL, rL, kR, zR, nnI, nnL, nnR, iL, iR, lI, lR, exi, exl, exv, eq_self, nI_add, nI_mul, nI_ltI, nI_leI, nI_eq, q0, q1, q2, q3, q4, q5, q6, q10, q100, br_Tr, br_Fa, iI_s, iI_n, bI_q0, bI_q1, or_true, true_or, not_true_eq_false, not_false_eq_true, nI_l, ge64, Nat.lt_irrefl, Nat.add_sub_cancel, Nat.not_lt_zero, lN_0, lN_1e4, lN_1e6, lN_1e3, lN_add, lN_mul, lN_ltI, lN_leI, lN_eqI, lN_i, lcE, lcLe, lcLt, lN_div, q7, q12, q20, q99, q200, q999, q1e4, if_true, if_false, Nat.le_refl]
      cases hbj : (buy (ldo st) h g m).1 with
      | none =>
        rw [show mis1 (ldo st) h m g = hW (ldo st) h g * 100 - 0 by unfold mis1; rw [hbj]] at ih
        refine ax_brt (by decide +kernel) ?_
        try simp (disch := omega) only [sub_le0, wr_s, in_nI, clN, ti_z, ti_l, true_and, and_true, kI, zI, rI, kL, zL, rL, kR, zR, nnI, nnL, nnR, iL, iR, lI, lR, exi, exl, exv, eq_self, nI_add, nI_mul, nI_ltI, nI_leI, nI_eq, q0, q1, q2, q3, q4, q5, q6, q10, q100, br_Tr, br_Fa, iI_s, iI_n, bI_q0, bI_q1, or_true, true_or, not_true_eq_false, not_false_eq_true, nI_l, ge64, Nat.lt_irrefl, Nat.add_sub_cancel, Nat.not_lt_zero, lN_0, lN_1e4, lN_1e6, lN_1e3, lN_add, lN_mul, lN_ltI, lN_leI, lN_eqI, lN_i, lcE, lcLe, lcLt, lN_div, q7, q12, q20, q99, q200, q999, q1e4, if_true, if_false, Nat.le_refl]
        refine ax_brf (by omega) ?_
        rw [nI_sub (by omega), nI_add]
        exact ih
      | some t =>
        have hbt := hbi t hbj
        have hv := worth_in ha hbt.1 m
        have hv2 : (buy (ldo st) h g m).2 * (Sz (ldo st) t m * Sf (ldo st) t m) ≤ 99 * 199800 := Nat.mul_le_mul hb9 hv.2
        rw [show mis1 (ldo st) h m g = hW (ldo st) h g * 100 - (buy (ldo st) h g m).2 * (Sz (ldo st) t m * Sf (ldo st) t m) by unfold mis1; rw [hbj]] at ih
        refine ax_brf (fun e => neg2_ne (show t < 2 ^ 31 by omega) e.symm) ?_
        refine d72 ?_
        try simp (disch := omega) only [hM0.1.1.2.1.all, hM0.1.1.2.2.1, hM0.1.1.2.2.2.1.all, hM0.1.1.2.2.2.all, hM0.1.2, hM0.2, enc_some, wr_s, in_nI, clN, ti_z, ti_l, true_and, and_true, kI, zI, rI, kL, zL, rL, kR, zR, nnI, nnL, nnR, iL, iR, lI, lR, exi, exl, exv, eq_self, nI_add, nI_mul, nI_ltI, nI_leI, nI_eq, q0, q1, q2, q3, q4, q5, q6, q10, q100, br_Tr, br_Fa, iI_s, iI_n, bI_q0, bI_q1, or_true, true_or, not_true_eq_false, not_false_eq_true, nI_l, ge64, Nat.lt_irrefl, Nat.add_sub_cancel, Nat.not_lt_zero, lN_0, lN_1e4, lN_1e6, lN_1e3, lN_add, lN_mul, lN_ltI, lN_leI, lN_eqI, lN_i, lcE, lcLe, lcLt, lN_div, q7, q12, q20, q99, q200, q999, q1e4, if_true, if_false, Nat.le_refl]
        refine d122 hM.1 hbt.1 (by omega) ?_
        try simp (disch := omega) only [sub_le0, wr_s, in_nI, clN, ti_z, ti_l, true_and, and_true, kI, zI, rI, kL, zL, rL, kR, zR, nnI, nnL, nnR, iL, iR, lI, lR, exi, exl, exv, eq_self, nI_add, nI_mul, nI_ltI, nI_leI, nI_eq, q0, q1, q2, q3, q4, q5, q6, q10, q100, br_Tr, br_Fa, iI_s, iI_n, bI_q0, bI_q1, or_true, true_or, not_true_eq_false, not_false_eq_true, nI_l, ge64, Nat.lt_irrefl, Nat.add_sub_cancel, Nat.not_lt_zero, lN_0, lN_1e4, lN_1e6, lN_1e3, lN_add, lN_mul, lN_ltI, lN_leI, lN_eqI, lN_i, lcE, lcLe, lcLt, lN_div, q7, q12, q20, q99, q200, q999, q1e4, if_true, if_false, Nat.le_refl]
        refine ax_brc (fun h3 => ?_) (fun h3 => ?_)
        · rw [Nat.sub_eq_zero_of_le h3] at ih; exact ih
        · rw [nI_sub (by omega), nI_add]; exact ih

theorem m223 {x y : Int32} {K : Int32 → ax_M → Prop} (hx : Mx μ st) (q : ∀ μ', OutM μ μ' → Mx μ' (aNumber st x y).2 → K (aNumber st x y).1 μ') : ax_CI l G 223 [ax_r (some 332), ax_i x, ax_i y] μ K := by
  have hb := hx.bd
  unfold aNumber aQ at q
  refine ax_Ct.of (by decide) (Nat.le_of_ble_eq_true rfl) (sg223_0 l G _ 332 _ _ _ ?_)
  try simp (disch := omega) only [hx.1.all, wr_s, in_nI, clN, ti_z, ti_l, true_and, and_true, kI, zI, rI, kL, zL, rL, kR, zR, nnI, nnL, nnR, iL, iR, lI, lR, exi, exl, exv, eq_self, nI_add, nI_mul, nI_sub, nI_ltI, nI_leI, nI_eq, q0, q1, q2, q3, q4, q5, q6, q10, q100, br_Tr, br_Fa, iI_s, iI_n, bI_q0, bI_q1, or_true, true_or, not_true_eq_false, not_false_eq_true, nI_l, ge64, Nat.lt_irrefl, Nat.add_sub_cancel, Nat.not_lt_zero, lN_0, lN_1e4, lN_1e6, lN_1e3, lN_add, lN_mul, lN_ltI, lN_leI, lN_eqI, lN_i, lcE, lcLe, lcLt, lN_div, q7, q12, q20, q99, q200, q999, q1e4, if_true, if_false, Nat.le_refl]
  refine d63 hx.s0 ?_
  try simp (disch := omega) only [hx.1.all, wr_s, in_nI, clN, ti_z, ti_l, true_and, and_true, kI, zI, rI, kL, zL, rL, kR, zR, nnI, nnL, nnR, iL, iR, lI, lR, exi, exl, exv, eq_self, nI_add, nI_mul, nI_sub, nI_ltI, nI_leI, nI_eq, q0, q1, q2, q3, q4, q5, q6, q10, q100, br_Tr, br_Fa, iI_s, iI_n, bI_q0, bI_q1, or_true, true_or, not_true_eq_false, not_false_eq_true, nI_l, ge64, Nat.lt_irrefl, Nat.add_sub_cancel, Nat.not_lt_zero, lN_0, lN_1e4, lN_1e6, lN_1e3, lN_add, lN_mul, lN_ltI, lN_leI, lN_eqI, lN_i, lcE, lcLe, lcLt, lN_div, q7, q12, q20, q99, q200, q999, q1e4, if_true, if_false, Nat.le_refl]
  cases h1 : inN x (cn st 6)
  · simp only [h1, Bool.and_false, Bool.false_and, Bool.and_true, Bool.true_and, cond_false, cond_true] at q
    exact ax_brt rfl (d68 hx (by decide) q)
  simp only [h1, Bool.and_false, Bool.false_and, Bool.and_true, Bool.true_and, cond_false, cond_true] at q
  refine ax_brf (by decide) ?_
  refine d62 hx.s0 ?_
  try simp (disch := omega) only [hx.1.all, wr_s, in_nI, clN, ti_z, ti_l, true_and, and_true, kI, zI, rI, kL, zL, rL, kR, zR, nnI, nnL, nnR, iL, iR, lI, lR, exi, exl, exv, eq_self, nI_add, nI_mul, nI_sub, nI_ltI, nI_leI, nI_eq, q0, q1, q2, q3, q4, q5, q6, q10, q100, br_Tr, br_Fa, iI_s, iI_n, bI_q0, bI_q1, or_true, true_or, not_true_eq_false, not_false_eq_true, nI_l, ge64, Nat.lt_irrefl, Nat.add_sub_cancel, Nat.not_lt_zero, lN_0, lN_1e4, lN_1e6, lN_1e3, lN_add, lN_mul, lN_ltI, lN_leI, lN_eqI, lN_i, lcE, lcLe, lcLt, lN_div, q7, q12, q20, q99, q200, q999, q1e4, if_true, if_false, Nat.le_refl]
  cases h2 : inN y (cn st 0)
  · simp only [h2, Bool.and_false, Bool.false_and, Bool.and_true, Bool.true_and, cond_false, cond_true] at q
    exact ax_brt rfl (d68 hx (by decide) q)
  simp only [h2, Bool.and_false, Bool.false_and, Bool.and_true, Bool.true_and, cond_false, cond_true] at q
  refine ax_brf (by decide) ?_
  obtain ⟨o, hh1, rfl⟩ := inN_t (by omega) h1
  obtain ⟨m, hh2, rfl⟩ := inN_t (by omega) h2
  obtain ⟨N, hM0, -, -, he⟩ := hx.mb hh1
  have hM := hM0.s0 (v := nI 0)
  have hbd := hM0.bd
  simp only [cl_nI (show o < 2 ^ 31 by omega), cl_nI (show m < 2 ^ 31 by omega)] at q
  refine d204 hM (by omega) (by omega) ?_
  try simp (disch := omega) only [hM0.1.1.2.1.all, hM0.1.1.2.2.1, hM0.1.1.2.2.2.1.all, hM0.1.1.2.2.2.all, hM0.1.2, hM0.2, wr_s, in_nI, clN, ti_z, ti_l, true_and, and_true, kI, zI, rI, kL, zL, rL, kR, zR, nnI, nnL, nnR, iL, iR, lI, lR, exi, exl, exv, eq_self, nI_add, nI_mul, nI_sub, nI_ltI, nI_leI, nI_eq, q0, q1, q2, q3, q4, q5, q6, q10, q100, br_Tr, br_Fa, iI_s, iI_n, bI_q0, bI_q1, or_true, true_or, not_true_eq_false, not_false_eq_true, nI_l, ge64, Nat.lt_irrefl, Nat.add_sub_cancel, Nat.not_lt_zero, lN_0, lN_1e4, lN_1e6, lN_1e3, lN_add, lN_mul, lN_ltI, lN_leI, lN_eqI, lN_i, lcE, lcLe, lcLt, lN_div, q7, q12, q20, q99, q200, q999, q1e4, if_true, if_false, Nat.le_refl]
  exact d51 hx q

theorem m148 {x : Int32} {K : Int32 → ax_M → Prop} (hx : Mx μ st) (q : ∀ μ', OutM μ μ' → Mx μ' (aBack st x).2 → K (aBack st x).1 μ') : ax_CI l G 148 [ax_r (some 332), ax_i x] μ K := by
  have hb := hx.bd
  unfold aBack aQ at q
  refine ax_Ct.of (by decide) (Nat.le_of_ble_eq_true rfl) (sg148_0 l G _ 332 _ _ ?_)
  try simp (disch := omega) only [hx.1.all, wr_s, in_nI, clN, ti_z, ti_l, true_and, and_true, kI, zI, rI, kL, zL, rL, kR, zR, nnI, nnL, nnR, iL, iR, lI, lR, exi, exl, exv, eq_self, nI_add, nI_mul, nI_sub, nI_ltI, nI_leI, nI_eq, q0, q1, q2, q3, q4, q5, q6, q10, q100, br_Tr, br_Fa, iI_s, iI_n, bI_q0, bI_q1, or_true, true_or, not_true_eq_false, not_false_eq_true, nI_l, ge64, Nat.lt_irrefl, Nat.add_sub_cancel, Nat.not_lt_zero, lN_0, lN_1e4, lN_1e6, lN_1e3, lN_add, lN_mul, lN_ltI, lN_leI, lN_eqI, lN_i, lcE, lcLe, lcLt, lN_div, q7, q12, q20, q99, q200, q999, q1e4, if_true, if_false, Nat.le_refl]
  refine d62 hx.s0 ?_
  try simp (disch := omega) only [hx.1.all, wr_s, in_nI, clN, ti_z, ti_l, true_and, and_true, kI, zI, rI, kL, zL, rL, kR, zR, nnI, nnL, nnR, iL, iR, lI, lR, exi, exl, exv, eq_self, nI_add, nI_mul, nI_sub, nI_ltI, nI_leI, nI_eq, q0, q1, q2, q3, q4, q5, q6, q10, q100, br_Tr, br_Fa, iI_s, iI_n, bI_q0, bI_q1, or_true, true_or, not_true_eq_false, not_false_eq_true, nI_l, ge64, Nat.lt_irrefl, Nat.add_sub_cancel, Nat.not_lt_zero, lN_0, lN_1e4, lN_1e6, lN_1e3, lN_add, lN_mul, lN_ltI, lN_leI, lN_eqI, lN_i, lcE, lcLe, lcLt, lN_div, q7, q12, q20, q99, q200, q999, q1e4, if_true, if_false, Nat.le_refl]
  cases h1 : inN x (cn st 0)
  · simp only [h1, Bool.and_false, Bool.false_and, Bool.and_true, Bool.true_and, cond_false, cond_true] at q
    exact ax_brt rfl (d68 hx (by decide) q)
  simp only [h1, Bool.and_false, Bool.false_and, Bool.and_true, Bool.true_and, cond_false, cond_true] at q
  refine ax_brf (by decide) ?_
  obtain ⟨m, hh1, rfl⟩ := inN_t (by omega) h1
  obtain ⟨N, hM0, -, -, he⟩ := hx.mb hh1
  have hM := hM0.s0 (v := nI 0)
  have hbd := hM0.bd
  simp only [cl_nI (show m < 2 ^ 31 by omega)] at q
  refine d110 hM.1 (by omega) ?_
  try simp (disch := omega) only [hM0.1.1.2.1.all, hM0.1.1.2.2.1, hM0.1.1.2.2.2.1.all, hM0.1.1.2.2.2.all, hM0.1.2, hM0.2, wr_s, in_nI, clN, ti_z, ti_l, true_and, and_true, kI, zI, rI, kL, zL, rL, kR, zR, nnI, nnL, nnR, iL, iR, lI, lR, exi, exl, exv, eq_self, nI_add, nI_mul, nI_sub, nI_ltI, nI_leI, nI_eq, q0, q1, q2, q3, q4, q5, q6, q10, q100, br_Tr, br_Fa, iI_s, iI_n, bI_q0, bI_q1, or_true, true_or, not_true_eq_false, not_false_eq_true, nI_l, ge64, Nat.lt_irrefl, Nat.add_sub_cancel, Nat.not_lt_zero, lN_0, lN_1e4, lN_1e6, lN_1e3, lN_add, lN_mul, lN_ltI, lN_leI, lN_eqI, lN_i, lcE, lcLe, lcLt, lN_div, q7, q12, q20, q99, q200, q999, q1e4, if_true, if_false, Nat.le_refl]
  refine ax_brc (fun h => ?_) (fun h => ?_)
  · rw [h] at q; exact d51 hx q
  · rw [show isBk (ldo st) m = true by simpa using h] at q; exact d51 hx q

theorem m215 {x y : Int32} {K : Int32 → ax_M → Prop} (hx : Mx μ st) (q : ∀ μ', OutM μ μ' → Mx μ' (aDrift st x y).2 → K (aDrift st x y).1 μ') : ax_CI l G 215 [ax_r (some 332), ax_i x, ax_i y] μ K := by
  have hb := hx.bd
  unfold aDrift at q
  refine ax_Ct.of (by decide) (Nat.le_of_ble_eq_true rfl) (sg215_0 l G _ 332 _ _ _ ?_)
  try simp (disch := omega) only [hx.1.all, wr_s, in_nI, clN, ti_z, ti_l, true_and, and_true, kI, zI, rI, kL, zL, rL, kR, zR, nnI, nnL, nnR, iL, iR, lI, lR, exi, exl, exv, eq_self, nI_add, nI_mul, nI_sub, nI_ltI, nI_leI, nI_eq, q0, q1, q2, q3, q4, q5, q6, q10, q100, br_Tr, br_Fa, iI_s, iI_n, bI_q0, bI_q1, or_true, true_or, not_true_eq_false, not_false_eq_true, nI_l, ge64, Nat.lt_irrefl, Nat.add_sub_cancel, Nat.not_lt_zero, lN_0, lN_1e4, lN_1e6, lN_1e3, lN_add, lN_mul, lN_ltI, lN_leI, lN_eqI, lN_i, lcE, lcLe, lcLt, lN_div, q7, q12, q20, q99, q200, q999, q1e4, if_true, if_false, Nat.le_refl]
  refine d63 hx.s0 ?_
  try simp (disch := omega) only [hx.1.all, wr_s, in_nI, clN, ti_z, ti_l, true_and, and_true, kI, zI, rI, kL, zL, rL, kR, zR, nnI, nnL, nnR, iL, iR, lI, lR, exi, exl, exv, eq_self, nI_add, nI_mul, nI_sub, nI_ltI, nI_leI, nI_eq, q0, q1, q2, q3, q4, q5, q6, q10, q100, br_Tr, br_Fa, iI_s, iI_n, bI_q0, bI_q1, or_true, true_or, not_true_eq_false, not_false_eq_true, nI_l, ge64, Nat.lt_irrefl, Nat.add_sub_cancel, Nat.not_lt_zero, lN_0, lN_1e4, lN_1e6, lN_1e3, lN_add, lN_mul, lN_ltI, lN_leI, lN_eqI, lN_i, lcE, lcLe, lcLt, lN_div, q7, q12, q20, q99, q200, q999, q1e4, if_true, if_false, Nat.le_refl]
  cases h1 : inN x (cn st 6)
  · simp only [h1, Bool.and_false, Bool.false_and, Bool.and_true, Bool.true_and, cond_false, cond_true] at q
    exact ax_brt rfl (d116 hx (by decide) q)
  simp only [h1, Bool.and_false, Bool.false_and, Bool.and_true, Bool.true_and, cond_false, cond_true] at q
  refine ax_brf (by decide) ?_
  refine d62 hx.s0 ?_
  try simp (disch := omega) only [hx.1.all, wr_s, in_nI, clN, ti_z, ti_l, true_and, and_true, kI, zI, rI, kL, zL, rL, kR, zR, nnI, nnL, nnR, iL, iR, lI, lR, exi, exl, exv, eq_self, nI_add, nI_mul, nI_sub, nI_ltI, nI_leI, nI_eq, q0, q1, q2, q3, q4, q5, q6, q10, q100, br_Tr, br_Fa, iI_s, iI_n, bI_q0, bI_q1, or_true, true_or, not_true_eq_false, not_false_eq_true, nI_l, ge64, Nat.lt_irrefl, Nat.add_sub_cancel, Nat.not_lt_zero, lN_0, lN_1e4, lN_1e6, lN_1e3, lN_add, lN_mul, lN_ltI, lN_leI, lN_eqI, lN_i, lcE, lcLe, lcLt, lN_div, q7, q12, q20, q99, q200, q999, q1e4, if_true, if_false, Nat.le_refl]
  cases h2 : inN y (cn st 0)
  · simp only [h2, Bool.and_false, Bool.false_and, Bool.and_true, Bool.true_and, cond_false, cond_true] at q
    exact ax_brt rfl (d116 hx (by decide) q)
  simp only [h2, Bool.and_false, Bool.false_and, Bool.and_true, Bool.true_and, cond_false, cond_true] at q
  refine ax_brf (by decide) ?_
  obtain ⟨o, hh1, rfl⟩ := inN_t (by omega) h1
  obtain ⟨m, hh2, rfl⟩ := inN_t (by omega) h2
  obtain ⟨N, hM0, -, -, he⟩ := hx.mb hh1
  have hM := hM0.s0 (v := nI 0)
  have hbd := hM0.bd
  simp only [cl_nI (show o < 2 ^ 31 by omega), cl_nI (show m < 2 ^ 31 by omega)] at q
  have hn := num_in (ldo st) o m
  refine d110 hM.1 (by omega) ?_
  try simp (disch := omega) only [hM0.1.1.2.1.all, hM0.1.1.2.2.1, hM0.1.1.2.2.2.1.all, hM0.1.1.2.2.2.all, hM0.1.2, hM0.2, wr_s, in_nI, clN, ti_z, ti_l, true_and, and_true, kI, zI, rI, kL, zL, rL, kR, zR, nnI, nnL, nnR, iL, iR, lI, lR, exi, exl, exv, eq_self, nI_add, nI_mul, nI_ltI, nI_leI, nI_eq, q0, q1, q2, q3, q4, q5, q6, q10, q100, br_Tr, br_Fa, iI_s, iI_n, bI_q0, bI_q1, or_true, true_or, not_true_eq_false, not_false_eq_true, nI_l, ge64, Nat.lt_irrefl, Nat.add_sub_cancel, Nat.not_lt_zero, lN_0, lN_1e4, lN_1e6, lN_1e3, lN_add, lN_mul, lN_ltI, lN_leI, lN_eqI, lN_i, lcE, lcLe, lcLt, lN_div, q7, q12, q20, q99, q200, q999, q1e4, if_true, if_false, Nat.le_refl]
  refine ax_brc (fun h => ?_) (fun h => ?_)
  · rw [h] at q; exact d116 hx (by decide) q
  · rw [show isBk (ldo st) m = true by simpa using h] at q
    refine d204 hM (by omega) (by omega) ?_
    try simp (disch := omega) only [hM0.1.1.2.1.all, hM0.1.1.2.2.1, hM0.1.1.2.2.2.1.all, hM0.1.1.2.2.2.all, hM0.1.2, hM0.2, wr_s, in_nI, clN, ti_z, ti_l, true_and, and_true, kI, zI, rI, kL, zL, rL, kR, zR, nnI, nnL, nnR, iL, iR, lI, lR, exi, exl, exv, eq_self, nI_add, nI_mul, nI_ltI, nI_leI, nI_eq, q0, q1, q2, q3, q4, q5, q6, q10, q100, br_Tr, br_Fa, iI_s, iI_n, bI_q0, bI_q1, or_true, true_or, not_true_eq_false, not_false_eq_true, nI_l, ge64, Nat.lt_irrefl, Nat.add_sub_cancel, Nat.not_lt_zero, lN_0, lN_1e4, lN_1e6, lN_1e3, lN_add, lN_mul, lN_ltI, lN_leI, lN_eqI, lN_i, lcE, lcLe, lcLt, lN_div, q7, q12, q20, q99, q200, q999, q1e4, if_true, if_false, Nat.le_refl]
    exact d51 hx q

theorem m213 {x y z : Int32} {K : Int32 → ax_M → Prop} (hx : Mx μ st) (q : ∀ μ', OutM μ μ' → Mx μ' (aBeside st x y z).2 → K (aBeside st x y z).1 μ') : ax_CI l G 213 [ax_r (some 332), ax_i x, ax_i y, ax_i z] μ K := by
  have hb := hx.bd
  unfold aBeside at q
  refine ax_Ct.of (by decide) (Nat.le_of_ble_eq_true rfl) (sg213_0 l G _ 332 _ _ _ _ ?_)
  try simp (disch := omega) only [hx.1.all, wr_s, in_nI, clN, ti_z, ti_l, true_and, and_true, kI, zI, rI, kL, zL, rL, kR, zR, nnI, nnL, nnR, iL, iR, lI, lR, exi, exl, exv, eq_self, nI_add, nI_mul, nI_sub, nI_ltI, nI_leI, nI_eq, q0, q1, q2, q3, q4, q5, q6, q10, q100, br_Tr, br_Fa, iI_s, iI_n, bI_q0, bI_q1, or_true, true_or, not_true_eq_false, not_false_eq_true, nI_l, ge64, Nat.lt_irrefl, Nat.add_sub_cancel, Nat.not_lt_zero, lN_0, lN_1e4, lN_1e6, lN_1e3, lN_add, lN_mul, lN_ltI, lN_leI, lN_eqI, lN_i, lcE, lcLe, lcLt, lN_div, q7, q12, q20, q99, q200, q999, q1e4, if_true, if_false, Nat.le_refl]
  refine d63 hx.s0 ?_
  try simp (disch := omega) only [hx.1.all, wr_s, in_nI, clN, ti_z, ti_l, true_and, and_true, kI, zI, rI, kL, zL, rL, kR, zR, nnI, nnL, nnR, iL, iR, lI, lR, exi, exl, exv, eq_self, nI_add, nI_mul, nI_sub, nI_ltI, nI_leI, nI_eq, q0, q1, q2, q3, q4, q5, q6, q10, q100, br_Tr, br_Fa, iI_s, iI_n, bI_q0, bI_q1, or_true, true_or, not_true_eq_false, not_false_eq_true, nI_l, ge64, Nat.lt_irrefl, Nat.add_sub_cancel, Nat.not_lt_zero, lN_0, lN_1e4, lN_1e6, lN_1e3, lN_add, lN_mul, lN_ltI, lN_leI, lN_eqI, lN_i, lcE, lcLe, lcLt, lN_div, q7, q12, q20, q99, q200, q999, q1e4, if_true, if_false, Nat.le_refl]
  cases h1 : inN x (cn st 6)
  · simp only [h1, Bool.and_false, Bool.false_and, Bool.and_true, Bool.true_and, cond_false, cond_true] at q
    exact ax_brt rfl (d116 hx (by decide) q)
  simp only [h1, Bool.and_false, Bool.false_and, Bool.and_true, Bool.true_and, cond_false, cond_true] at q
  refine ax_brf (by decide) ?_
  refine d60 hx.s0 ?_
  try simp (disch := omega) only [hx.1.all, wr_s, in_nI, clN, ti_z, ti_l, true_and, and_true, kI, zI, rI, kL, zL, rL, kR, zR, nnI, nnL, nnR, iL, iR, lI, lR, exi, exl, exv, eq_self, nI_add, nI_mul, nI_sub, nI_ltI, nI_leI, nI_eq, q0, q1, q2, q3, q4, q5, q6, q10, q100, br_Tr, br_Fa, iI_s, iI_n, bI_q0, bI_q1, or_true, true_or, not_true_eq_false, not_false_eq_true, nI_l, ge64, Nat.lt_irrefl, Nat.add_sub_cancel, Nat.not_lt_zero, lN_0, lN_1e4, lN_1e6, lN_1e3, lN_add, lN_mul, lN_ltI, lN_leI, lN_eqI, lN_i, lcE, lcLe, lcLt, lN_div, q7, q12, q20, q99, q200, q999, q1e4, if_true, if_false, Nat.le_refl]
  cases h2 : inN y (cn st 5)
  · simp only [h2, Bool.and_false, Bool.false_and, Bool.and_true, Bool.true_and, cond_false, cond_true] at q
    exact ax_brt rfl (d116 hx (by decide) q)
  simp only [h2, Bool.and_false, Bool.false_and, Bool.and_true, Bool.true_and, cond_false, cond_true] at q
  refine ax_brf (by decide) ?_
  refine d62 hx.s0 ?_
  try simp (disch := omega) only [hx.1.all, wr_s, in_nI, clN, ti_z, ti_l, true_and, and_true, kI, zI, rI, kL, zL, rL, kR, zR, nnI, nnL, nnR, iL, iR, lI, lR, exi, exl, exv, eq_self, nI_add, nI_mul, nI_sub, nI_ltI, nI_leI, nI_eq, q0, q1, q2, q3, q4, q5, q6, q10, q100, br_Tr, br_Fa, iI_s, iI_n, bI_q0, bI_q1, or_true, true_or, not_true_eq_false, not_false_eq_true, nI_l, ge64, Nat.lt_irrefl, Nat.add_sub_cancel, Nat.not_lt_zero, lN_0, lN_1e4, lN_1e6, lN_1e3, lN_add, lN_mul, lN_ltI, lN_leI, lN_eqI, lN_i, lcE, lcLe, lcLt, lN_div, q7, q12, q20, q99, q200, q999, q1e4, if_true, if_false, Nat.le_refl]
  cases h3 : inN z (cn st 0)
  · simp only [h3, Bool.and_false, Bool.false_and, Bool.and_true, Bool.true_and, cond_false, cond_true] at q
    exact ax_brt rfl (d116 hx (by decide) q)
  simp only [h3, Bool.and_false, Bool.false_and, Bool.and_true, Bool.true_and, cond_false, cond_true] at q
  refine ax_brf (by decide) ?_
  obtain ⟨o, hh1, rfl⟩ := inN_t (by omega) h1
  obtain ⟨h, hh2, rfl⟩ := inN_t (by omega) h2
  obtain ⟨m, hh3, rfl⟩ := inN_t (by omega) h3
  obtain ⟨N, hM0, -, -, he⟩ := hx.mb hh1
  have hM := hM0.s0 (v := nI 0)
  have hbd := hM0.bd
  simp only [cl_nI (show o < 2 ^ 31 by omega), cl_nI (show h < 2 ^ 31 by omega), cl_nI (show m < 2 ^ 31 by omega)] at q
  refine d204 hM (by omega) (by omega) ?_
  try simp (disch := omega) only [hM0.1.1.2.1.all, hM0.1.1.2.2.1, hM0.1.1.2.2.2.1.all, hM0.1.1.2.2.2.all, hM0.1.2, hM0.2, wr_s, in_nI, clN, ti_z, ti_l, true_and, and_true, kI, zI, rI, kL, zL, rL, kR, zR, nnI, nnL, nnR, iL, iR, lI, lR, exi, exl, exv, eq_self, nI_add, nI_mul, nI_ltI, nI_leI, nI_eq, q0, q1, q2, q3, q4, q5, q6, q10, q100, br_Tr, br_Fa, iI_s, iI_n, bI_q0, bI_q1, or_true, true_or, not_true_eq_false, not_false_eq_true, nI_l, ge64, Nat.lt_irrefl, Nat.add_sub_cancel, Nat.not_lt_zero, lN_0, lN_1e4, lN_1e6, lN_1e3, lN_add, lN_mul, lN_ltI, lN_leI, lN_eqI, lN_i, lcE, lcLe, lcLt, lN_div, q7, q12, q20, q99, q200, q999, q1e4, if_true, if_false, Nat.le_refl]
  refine d203 hM.1 (by omega) (by omega) ?_
  try simp (disch := omega) only [hM0.1.1.2.1.all, hM0.1.1.2.2.1, hM0.1.1.2.2.2.1.all, hM0.1.1.2.2.2.all, hM0.1.2, hM0.2, wr_s, in_nI, clN, ti_z, ti_l, true_and, and_true, kI, zI, rI, kL, zL, rL, kR, zR, nnI, nnL, nnR, iL, iR, lI, lR, exi, exl, exv, eq_self, nI_add, nI_mul, nI_ltI, nI_leI, nI_eq, q0, q1, q2, q3, q4, q5, q6, q10, q100, br_Tr, br_Fa, iI_s, iI_n, bI_q0, bI_q1, or_true, true_or, not_true_eq_false, not_false_eq_true, nI_l, ge64, Nat.lt_irrefl, Nat.add_sub_cancel, Nat.not_lt_zero, lN_0, lN_1e4, lN_1e6, lN_1e3, lN_add, lN_mul, lN_ltI, lN_leI, lN_eqI, lN_i, lcE, lcLe, lcLt, lN_div, q7, q12, q20, q99, q200, q999, q1e4, if_true, if_false, Nat.le_refl]
  exact d51 hx q

theorem m236 {x y z : Int32} {K : Int32 → ax_M → Prop} (hx : Mx μ st) (q : ∀ μ', OutM μ μ' → Mx μ' (aPension st x y z).2 → K (aPension st x y z).1 μ') : ax_CI l G 236 [ax_r (some 332), ax_i x, ax_i y, ax_i z] μ K := by
  have hb := hx.bd
  unfold aPension aQ at q
  refine ax_Ct.of (by decide) (Nat.le_of_ble_eq_true rfl) (sg236_0 l G _ 332 _ _ _ _ ?_)
  try simp (disch := omega) only [hx.1.all, wr_s, in_nI, clN, ti_z, ti_l, true_and, and_true, kI, zI, rI, kL, zL, rL, kR, zR, nnI, nnL, nnR, iL, iR, lI, lR, exi, exl, exv, eq_self, nI_add, nI_mul, nI_sub, nI_ltI, nI_leI, nI_eq, q0, q1, q2, q3, q4, q5, q6, q10, q100, br_Tr, br_Fa, iI_s, iI_n, bI_q0, bI_q1, or_true, true_or, not_true_eq_false, not_false_eq_true, nI_l, ge64, Nat.lt_irrefl, Nat.add_sub_cancel, Nat.not_lt_zero, lN_0, lN_1e4, lN_1e6, lN_1e3, lN_add, lN_mul, lN_ltI, lN_leI, lN_eqI, lN_i, lcE, lcLe, lcLt, lN_div, q7, q12, q20, q99, q200, q999, q1e4, if_true, if_false, Nat.le_refl]
  refine d60 hx.s0 ?_
  try simp (disch := omega) only [hx.1.all, wr_s, in_nI, clN, ti_z, ti_l, true_and, and_true, kI, zI, rI, kL, zL, rL, kR, zR, nnI, nnL, nnR, iL, iR, lI, lR, exi, exl, exv, eq_self, nI_add, nI_mul, nI_sub, nI_ltI, nI_leI, nI_eq, q0, q1, q2, q3, q4, q5, q6, q10, q100, br_Tr, br_Fa, iI_s, iI_n, bI_q0, bI_q1, or_true, true_or, not_true_eq_false, not_false_eq_true, nI_l, ge64, Nat.lt_irrefl, Nat.add_sub_cancel, Nat.not_lt_zero, lN_0, lN_1e4, lN_1e6, lN_1e3, lN_add, lN_mul, lN_ltI, lN_leI, lN_eqI, lN_i, lcE, lcLe, lcLt, lN_div, q7, q12, q20, q99, q200, q999, q1e4, if_true, if_false, Nat.le_refl]
  cases h1 : inN x (cn st 5)
  · simp only [h1, Bool.and_false, Bool.false_and, Bool.and_true, Bool.true_and, cond_false, cond_true] at q
    exact ax_brt rfl (d68 hx (by decide) q)
  simp only [h1, Bool.and_false, Bool.false_and, Bool.and_true, Bool.true_and, cond_false, cond_true] at q
  refine ax_brf (by decide) ?_
  refine d63 hx.s0 ?_
  try simp (disch := omega) only [hx.1.all, wr_s, in_nI, clN, ti_z, ti_l, true_and, and_true, kI, zI, rI, kL, zL, rL, kR, zR, nnI, nnL, nnR, iL, iR, lI, lR, exi, exl, exv, eq_self, nI_add, nI_mul, nI_sub, nI_ltI, nI_leI, nI_eq, q0, q1, q2, q3, q4, q5, q6, q10, q100, br_Tr, br_Fa, iI_s, iI_n, bI_q0, bI_q1, or_true, true_or, not_true_eq_false, not_false_eq_true, nI_l, ge64, Nat.lt_irrefl, Nat.add_sub_cancel, Nat.not_lt_zero, lN_0, lN_1e4, lN_1e6, lN_1e3, lN_add, lN_mul, lN_ltI, lN_leI, lN_eqI, lN_i, lcE, lcLe, lcLt, lN_div, q7, q12, q20, q99, q200, q999, q1e4, if_true, if_false, Nat.le_refl]
  cases h2 : inN y (cn st 6)
  · simp only [h2, Bool.and_false, Bool.false_and, Bool.and_true, Bool.true_and, cond_false, cond_true] at q
    exact ax_brt rfl (d68 hx (by decide) q)
  simp only [h2, Bool.and_false, Bool.false_and, Bool.and_true, Bool.true_and, cond_false, cond_true] at q
  refine ax_brf (by decide) ?_
  refine d62 hx.s0 ?_
  try simp (disch := omega) only [hx.1.all, wr_s, in_nI, clN, ti_z, ti_l, true_and, and_true, kI, zI, rI, kL, zL, rL, kR, zR, nnI, nnL, nnR, iL, iR, lI, lR, exi, exl, exv, eq_self, nI_add, nI_mul, nI_sub, nI_ltI, nI_leI, nI_eq, q0, q1, q2, q3, q4, q5, q6, q10, q100, br_Tr, br_Fa, iI_s, iI_n, bI_q0, bI_q1, or_true, true_or, not_true_eq_false, not_false_eq_true, nI_l, ge64, Nat.lt_irrefl, Nat.add_sub_cancel, Nat.not_lt_zero, lN_0, lN_1e4, lN_1e6, lN_1e3, lN_add, lN_mul, lN_ltI, lN_leI, lN_eqI, lN_i, lcE, lcLe, lcLt, lN_div, q7, q12, q20, q99, q200, q999, q1e4, if_true, if_false, Nat.le_refl]
  cases h3 : inN z (cn st 0)
  · simp only [h3, Bool.and_false, Bool.false_and, Bool.and_true, Bool.true_and, cond_false, cond_true] at q
    exact ax_brt rfl (d68 hx (by decide) q)
  simp only [h3, Bool.and_false, Bool.false_and, Bool.and_true, Bool.true_and, cond_false, cond_true] at q
  refine ax_brf (by decide) ?_
  obtain ⟨h, hh1, rfl⟩ := inN_t (by omega) h1
  obtain ⟨o, hh2, rfl⟩ := inN_t (by omega) h2
  obtain ⟨m, hh3, rfl⟩ := inN_t (by omega) h3
  obtain ⟨N, hM0, -, -, he⟩ := hx.mb hh1
  have hM := hM0.s0 (v := nI 0)
  have hbd := hM0.bd
  simp only [cl_nI (show h < 2 ^ 31 by omega), cl_nI (show o < 2 ^ 31 by omega), cl_nI (show m < 2 ^ 31 by omega)] at q
  refine d224 hM (by omega) (by omega) (by omega) ?_
  try simp (disch := omega) only [hM0.1.1.2.1.all, hM0.1.1.2.2.1, hM0.1.1.2.2.2.1.all, hM0.1.1.2.2.2.all, hM0.1.2, hM0.2, wr_s, in_nI, clN, ti_z, ti_l, true_and, and_true, kI, zI, rI, kL, zL, rL, kR, zR, nnI, nnL, nnR, iL, iR, lI, lR, exi, exl, exv, eq_self, nI_add, nI_mul, nI_sub, nI_ltI, nI_leI, nI_eq, q0, q1, q2, q3, q4, q5, q6, q10, q100, br_Tr, br_Fa, iI_s, iI_n, bI_q0, bI_q1, or_true, true_or, not_true_eq_false, not_false_eq_true, nI_l, ge64, Nat.lt_irrefl, Nat.add_sub_cancel, Nat.not_lt_zero, lN_0, lN_1e4, lN_1e6, lN_1e3, lN_add, lN_mul, lN_ltI, lN_leI, lN_eqI, lN_i, lcE, lcLe, lcLt, lN_div, q7, q12, q20, q99, q200, q999, q1e4, if_true, if_false, Nat.le_refl]
  exact d51 hx q

theorem m235 {x y z : Int32} {K : Int32 → ax_M → Prop} (hx : Mx μ st) (q : ∀ μ', OutM μ μ' → Mx μ' (aLacks st x y z).2 → K (aLacks st x y z).1 μ') : ax_CI l G 235 [ax_r (some 332), ax_i x, ax_i y, ax_i z] μ K := by
  have hb := hx.bd
  unfold aLacks aQ at q
  refine ax_Ct.of (by decide) (Nat.le_of_ble_eq_true rfl) (sg235_0 l G _ 332 _ _ _ _ ?_)
  try simp (disch := omega) only [hx.1.all, wr_s, in_nI, clN, ti_z, ti_l, true_and, and_true, kI, zI, rI, kL, zL, rL, kR, zR, nnI, nnL, nnR, iL, iR, lI, lR, exi, exl, exv, eq_self, nI_add, nI_mul, nI_sub, nI_ltI, nI_leI, nI_eq, q0, q1, q2, q3, q4, q5, q6, q10, q100, br_Tr, br_Fa, iI_s, iI_n, bI_q0, bI_q1, or_true, true_or, not_true_eq_false, not_false_eq_true, nI_l, ge64, Nat.lt_irrefl, Nat.add_sub_cancel, Nat.not_lt_zero, lN_0, lN_1e4, lN_1e6, lN_1e3, lN_add, lN_mul, lN_ltI, lN_leI, lN_eqI, lN_i, lcE, lcLe, lcLt, lN_div, q7, q12, q20, q99, q200, q999, q1e4, if_true, if_false, Nat.le_refl]
  refine d60 hx.s0 ?_
  try simp (disch := omega) only [hx.1.all, wr_s, in_nI, clN, ti_z, ti_l, true_and, and_true, kI, zI, rI, kL, zL, rL, kR, zR, nnI, nnL, nnR, iL, iR, lI, lR, exi, exl, exv, eq_self, nI_add, nI_mul, nI_sub, nI_ltI, nI_leI, nI_eq, q0, q1, q2, q3, q4, q5, q6, q10, q100, br_Tr, br_Fa, iI_s, iI_n, bI_q0, bI_q1, or_true, true_or, not_true_eq_false, not_false_eq_true, nI_l, ge64, Nat.lt_irrefl, Nat.add_sub_cancel, Nat.not_lt_zero, lN_0, lN_1e4, lN_1e6, lN_1e3, lN_add, lN_mul, lN_ltI, lN_leI, lN_eqI, lN_i, lcE, lcLe, lcLt, lN_div, q7, q12, q20, q99, q200, q999, q1e4, if_true, if_false, Nat.le_refl]
  cases h1 : inN x (cn st 5)
  · simp only [h1, Bool.and_false, Bool.false_and, Bool.and_true, Bool.true_and, cond_false, cond_true] at q
    exact ax_brt rfl (d68 hx (by decide) q)
  simp only [h1, Bool.and_false, Bool.false_and, Bool.and_true, Bool.true_and, cond_false, cond_true] at q
  refine ax_brf (by decide) ?_
  refine d63 hx.s0 ?_
  try simp (disch := omega) only [hx.1.all, wr_s, in_nI, clN, ti_z, ti_l, true_and, and_true, kI, zI, rI, kL, zL, rL, kR, zR, nnI, nnL, nnR, iL, iR, lI, lR, exi, exl, exv, eq_self, nI_add, nI_mul, nI_sub, nI_ltI, nI_leI, nI_eq, q0, q1, q2, q3, q4, q5, q6, q10, q100, br_Tr, br_Fa, iI_s, iI_n, bI_q0, bI_q1, or_true, true_or, not_true_eq_false, not_false_eq_true, nI_l, ge64, Nat.lt_irrefl, Nat.add_sub_cancel, Nat.not_lt_zero, lN_0, lN_1e4, lN_1e6, lN_1e3, lN_add, lN_mul, lN_ltI, lN_leI, lN_eqI, lN_i, lcE, lcLe, lcLt, lN_div, q7, q12, q20, q99, q200, q999, q1e4, if_true, if_false, Nat.le_refl]
  cases h2 : inN y (cn st 6)
  · simp only [h2, Bool.and_false, Bool.false_and, Bool.and_true, Bool.true_and, cond_false, cond_true] at q
    exact ax_brt rfl (d68 hx (by decide) q)
  simp only [h2, Bool.and_false, Bool.false_and, Bool.and_true, Bool.true_and, cond_false, cond_true] at q
  refine ax_brf (by decide) ?_
  refine d62 hx.s0 ?_
  try simp (disch := omega) only [hx.1.all, wr_s, in_nI, clN, ti_z, ti_l, true_and, and_true, kI, zI, rI, kL, zL, rL, kR, zR, nnI, nnL, nnR, iL, iR, lI, lR, exi, exl, exv, eq_self, nI_add, nI_mul, nI_sub, nI_ltI, nI_leI, nI_eq, q0, q1, q2, q3, q4, q5, q6, q10, q100, br_Tr, br_Fa, iI_s, iI_n, bI_q0, bI_q1, or_true, true_or, not_true_eq_false, not_false_eq_true, nI_l, ge64, Nat.lt_irrefl, Nat.add_sub_cancel, Nat.not_lt_zero, lN_0, lN_1e4, lN_1e6, lN_1e3, lN_add, lN_mul, lN_ltI, lN_leI, lN_eqI, lN_i, lcE, lcLe, lcLt, lN_div, q7, q12, q20, q99, q200, q999, q1e4, if_true, if_false, Nat.le_refl]
  cases h3 : inN z (cn st 0)
  · simp only [h3, Bool.and_false, Bool.false_and, Bool.and_true, Bool.true_and, cond_false, cond_true] at q
    exact ax_brt rfl (d68 hx (by decide) q)
  simp only [h3, Bool.and_false, Bool.false_and, Bool.and_true, Bool.true_and, cond_false, cond_true] at q
  refine ax_brf (by decide) ?_
  obtain ⟨h, hh1, rfl⟩ := inN_t (by omega) h1
  obtain ⟨o, hh2, rfl⟩ := inN_t (by omega) h2
  obtain ⟨m, hh3, rfl⟩ := inN_t (by omega) h3
  obtain ⟨N, hM0, -, -, he⟩ := hx.mb hh1
  have hM := hM0.s0 (v := nI 0)
  have hbd := hM0.bd
  simp only [cl_nI (show h < 2 ^ 31 by omega), cl_nI (show o < 2 ^ 31 by omega), cl_nI (show m < 2 ^ 31 by omega)] at q
  have ha := hM.1.1.1
  refine up_to (P := fun i => (ax_Rw l G ax_h235 (ax_E G ax_h235 (fun x μ' => ∃ v : Int32, x = some (ax_i v) ∧ K v μ')) 41 [(0, ax_r (some 332)), (1, ax_i (nI h)), (2, ax_i (nI o)), (3, ax_i (nI m)), (4, ax_i (nI (sumN (fun i => tru (ldo st) h i - pen (ldo st) h o i) i))), (5, ax_i (nI i))] [] 0 0 (sI μ 332 0 (nI 0)))) (m + 1) ?_ (fun i hi ih => ?_) 0 (Nat.zero_le _)
  · refine sg235_41 l G _ 332 _ _ _ _ _ _ ?_
    try simp (disch := omega) only [hM0.1.1.2.1.all, hM0.1.1.2.2.1, hM0.1.1.2.2.2.1.all, hM0.1.1.2.2.2.all, hM0.1.2, hM0.2, show ¬ (m + 1 ≤ m) by omega, wr_s, in_nI, clN, ti_z, ti_l, true_and, and_true, kI, zI, rI, kL, zL, rL, kR, zR, nnI, nnL, nnR, iL, iR, lI, lR, exi, exl, exv, eq_self, nI_add, nI_mul, nI_sub, nI_ltI, nI_leI, nI_eq, q0, q1, q2, q3, q4, q5, q6, q10, q100, br_Tr, br_Fa, iI_s, iI_n, bI_q0, bI_q1, or_true, true_or, not_true_eq_false, not_false_eq_true, nI_l, ge64, Nat.lt_irrefl, Nat.add_sub_cancel, Nat.not_lt_zero, lN_0, lN_1e4, lN_1e6, lN_1e3, lN_add, lN_mul, lN_ltI, lN_leI, lN_eqI, lN_i, lcE, lcLe, lcLt, lN_div, q7, q12, q20, q99, q200, q999, q1e4, if_true, if_false, Nat.le_refl]
    exact d51 hx q
  · have e1 := tru_in ha (m := i) (show h < nHo (ldo st) by omega)
    have e2 := pen_in (o := o) (m := i) ha (show h < nHo (ldo st) by omega)
    rw [sumN_s] at ih
    refine sg235_41 l G _ 332 _ _ _ _ _ _ ?_
    try simp (disch := omega) only [hM0.1.1.2.1.all, hM0.1.1.2.2.1, hM0.1.1.2.2.2.1.all, hM0.1.1.2.2.2.all, hM0.1.2, hM0.2, show i ≤ m by omega, wr_s, in_nI, clN, ti_z, ti_l, true_and, and_true, kI, zI, rI, kL, zL, rL, kR, zR, nnI, nnL, nnR, iL, iR, lI, lR, exi, exl, exv, eq_self, nI_add, nI_mul, nI_sub, nI_ltI, nI_leI, nI_eq, q0, q1, q2, q3, q4, q5, q6, q10, q100, br_Tr, br_Fa, iI_s, iI_n, bI_q0, bI_q1, or_true, true_or, not_true_eq_false, not_false_eq_true, nI_l, ge64, Nat.lt_irrefl, Nat.add_sub_cancel, Nat.not_lt_zero, lN_0, lN_1e4, lN_1e6, lN_1e3, lN_add, lN_mul, lN_ltI, lN_leI, lN_eqI, lN_i, lcE, lcLe, lcLt, lN_div, q7, q12, q20, q99, q200, q999, q1e4, if_true, if_false, Nat.le_refl]
    refine d191 hM.1 (by omega) (by omega) ?_
    try simp (disch := omega) only [hM0.1.1.2.1.all, hM0.1.1.2.2.1, hM0.1.1.2.2.2.1.all, hM0.1.1.2.2.2.all, hM0.1.2, hM0.2, wr_s, in_nI, clN, ti_z, ti_l, true_and, and_true, kI, zI, rI, kL, zL, rL, kR, zR, nnI, nnL, nnR, iL, iR, lI, lR, exi, exl, exv, eq_self, nI_add, nI_mul, nI_sub, nI_ltI, nI_leI, nI_eq, q0, q1, q2, q3, q4, q5, q6, q10, q100, br_Tr, br_Fa, iI_s, iI_n, bI_q0, bI_q1, or_true, true_or, not_true_eq_false, not_false_eq_true, nI_l, ge64, Nat.lt_irrefl, Nat.add_sub_cancel, Nat.not_lt_zero, lN_0, lN_1e4, lN_1e6, lN_1e3, lN_add, lN_mul, lN_ltI, lN_leI, lN_eqI, lN_i, lcE, lcLe, lcLt, lN_div, q7, q12, q20, q99, q200, q999, q1e4, if_true, if_false, Nat.le_refl]
    refine d224 hM (by omega) (by omega) (by omega) ?_
    try simp (disch := omega) only [sub_le0, wr_s, in_nI, clN, ti_z, ti_l, true_and, and_true, kI, zI, rI, kL, zL, rL, kR, zR, nnI, nnL, nnR, iL, iR, lI, lR, exi, exl, exv, eq_self, nI_add, nI_mul, nI_ltI, nI_leI, nI_eq, q0, q1, q2, q3, q4, q5, q6, q10, q100, br_Tr, br_Fa, iI_s, iI_n, bI_q0, bI_q1, or_true, true_or, not_true_eq_false, not_false_eq_true, nI_l, ge64, Nat.lt_irrefl, Nat.add_sub_cancel, Nat.not_lt_zero, lN_0, lN_1e4, lN_1e6, lN_1e3, lN_add, lN_mul, lN_ltI, lN_leI, lN_eqI, lN_i, lcE, lcLe, lcLt, lN_div, q7, q12, q20, q99, q200, q999, q1e4, if_true, if_false, Nat.le_refl]
    refine ax_brc (fun h3 => ?_) (fun h3 => ?_)
    · rw [Nat.sub_eq_zero_of_le h3] at ih; exact ih
    · rw [nI_sub (by omega), nI_add]; exact ih

theorem m222 {x y : Int32} {K : Int32 → ax_M → Prop} (hx : Mx μ st) (q : ∀ μ', OutM μ μ' → Mx μ' (aNearest st x y).2 → K (aNearest st x y).1 μ') : ax_CI l G 222 [ax_r (some 332), ax_i x, ax_i y] μ K := by
  have hb := hx.bd
  unfold aNearest aQ at q
  refine ax_Ct.of (by decide) (Nat.le_of_ble_eq_true rfl) (sg222_0 l G _ 332 _ _ _ ?_)
  try simp (disch := omega) only [hx.1.all, wr_s, in_nI, clN, ti_z, ti_l, true_and, and_true, kI, zI, rI, kL, zL, rL, kR, zR, nnI, nnL, nnR, iL, iR, lI, lR, exi, exl, exv, eq_self, nI_add, nI_mul, nI_sub, nI_ltI, nI_leI, nI_eq, q0, q1, q2, q3, q4, q5, q6, q10, q100, br_Tr, br_Fa, iI_s, iI_n, bI_q0, bI_q1, or_true, true_or, not_true_eq_false, not_false_eq_true, nI_l, ge64, Nat.lt_irrefl, Nat.add_sub_cancel, Nat.not_lt_zero, lN_0, lN_1e4, lN_1e6, lN_1e3, lN_add, lN_mul, lN_ltI, lN_leI, lN_eqI, lN_i, lcE, lcLe, lcLt, lN_div, q7, q12, q20, q99, q200, q999, q1e4, if_true, if_false, Nat.le_refl]
  refine d60 hx.s0 ?_
  try simp (disch := omega) only [hx.1.all, wr_s, in_nI, clN, ti_z, ti_l, true_and, and_true, kI, zI, rI, kL, zL, rL, kR, zR, nnI, nnL, nnR, iL, iR, lI, lR, exi, exl, exv, eq_self, nI_add, nI_mul, nI_sub, nI_ltI, nI_leI, nI_eq, q0, q1, q2, q3, q4, q5, q6, q10, q100, br_Tr, br_Fa, iI_s, iI_n, bI_q0, bI_q1, or_true, true_or, not_true_eq_false, not_false_eq_true, nI_l, ge64, Nat.lt_irrefl, Nat.add_sub_cancel, Nat.not_lt_zero, lN_0, lN_1e4, lN_1e6, lN_1e3, lN_add, lN_mul, lN_ltI, lN_leI, lN_eqI, lN_i, lcE, lcLe, lcLt, lN_div, q7, q12, q20, q99, q200, q999, q1e4, if_true, if_false, Nat.le_refl]
  cases h1 : inN x (cn st 5)
  · simp only [h1, Bool.and_false, Bool.false_and, Bool.and_true, Bool.true_and, cond_false, cond_true] at q
    exact ax_brt rfl (d68 hx (by decide) q)
  simp only [h1, Bool.and_false, Bool.false_and, Bool.and_true, Bool.true_and, cond_false, cond_true] at q
  refine ax_brf (by decide) ?_
  refine d62 hx.s0 ?_
  try simp (disch := omega) only [hx.1.all, wr_s, in_nI, clN, ti_z, ti_l, true_and, and_true, kI, zI, rI, kL, zL, rL, kR, zR, nnI, nnL, nnR, iL, iR, lI, lR, exi, exl, exv, eq_self, nI_add, nI_mul, nI_sub, nI_ltI, nI_leI, nI_eq, q0, q1, q2, q3, q4, q5, q6, q10, q100, br_Tr, br_Fa, iI_s, iI_n, bI_q0, bI_q1, or_true, true_or, not_true_eq_false, not_false_eq_true, nI_l, ge64, Nat.lt_irrefl, Nat.add_sub_cancel, Nat.not_lt_zero, lN_0, lN_1e4, lN_1e6, lN_1e3, lN_add, lN_mul, lN_ltI, lN_leI, lN_eqI, lN_i, lcE, lcLe, lcLt, lN_div, q7, q12, q20, q99, q200, q999, q1e4, if_true, if_false, Nat.le_refl]
  cases h2 : inN y (cn st 0)
  · simp only [h2, Bool.and_false, Bool.false_and, Bool.and_true, Bool.true_and, cond_false, cond_true] at q
    exact ax_brt rfl (d68 hx (by decide) q)
  simp only [h2, Bool.and_false, Bool.false_and, Bool.and_true, Bool.true_and, cond_false, cond_true] at q
  refine ax_brf (by decide) ?_
  obtain ⟨h, hh1, rfl⟩ := inN_t (by omega) h1
  obtain ⟨m, hh2, rfl⟩ := inN_t (by omega) h2
  obtain ⟨N, hM0, -, -, he⟩ := hx.mb hh1
  have hM := hM0.s0 (v := nI 0)
  have hbd := hM0.bd
  simp only [cl_nI (show h < 2 ^ 31 by omega), cl_nI (show m < 2 ^ 31 by omega)] at q
  have hlv := liv_in (ldo st) h m
  refine d203 hM.1 (by omega) (by omega) ?_
  try simp (disch := omega) only [wr_s, in_nI, clN, ti_z, ti_l, true_and, and_true, kI, zI, rI, kL, zL, rL, kR, zR, nnI, nnL, nnR, iL, iR, lI, lR, exi, exl, exv, eq_self, nI_add, nI_mul, nI_sub, nI_ltI, nI_leI, nI_eq, q0, q1, q2, q3, q4, q5, q6, q10, q100, br_Tr, br_Fa, iI_s, iI_n, bI_q0, bI_q1, or_true, true_or, not_true_eq_false, not_false_eq_true, nI_l, ge64, Nat.lt_irrefl, Nat.add_sub_cancel, Nat.not_lt_zero, lN_0, lN_1e4, lN_1e6, lN_1e3, lN_add, lN_mul, lN_ltI, lN_leI, lN_eqI, lN_i, lcE, lcLe, lcLt, lN_div, q7, q12, q20, q99, q200, q999, q1e4, if_true, if_false, Nat.le_refl]
  refine up_to (P := fun o => (ax_Rw l G ax_h222 (ax_E G ax_h222 (fun x μ' => ∃ v : Int32, x = some (ax_i v) ∧ K v μ')) 43 [(0, ax_r (some 332)), (2, ax_i (nI m)), (3, ax_i (nI (liv (ldo st) h m))), (4, ax_i (e8 (nrK (ldo st) h m o))), (5, ax_i (e5 (nrK (ldo st) h m o))), (6, ax_i (nI o))] [] 0 0 (sI μ 332 0 (nI 0)))) (nOf (ldo st)) ?_ (fun o ho ih => ?_) 0 (Nat.zero_le _)
  · refine sg222_43 l G _ 332 _ _ _ _ _ _ ?_
    try simp (disch := omega) only [hM0.1.1.2.1.all, hM0.1.1.2.2.1, hM0.1.1.2.2.2.1.all, hM0.1.1.2.2.2.all, hM0.1.2, hM0.2, wr_s, in_nI, clN, ti_z, ti_l, true_and, and_true, kI, zI, rI, kL, zL, rL, kR, zR, nnI, nnL, nnR, iL, iR, lI, lR, exi, exl, exv, eq_self, nI_add, nI_mul, nI_sub, nI_ltI, nI_leI, nI_eq, q0, q1, q2, q3, q4, q5, q6, q10, q100, br_Tr, br_Fa, iI_s, iI_n, bI_q0, bI_q1, or_true, true_or, not_true_eq_false, not_false_eq_true, nI_l, ge64, Nat.lt_irrefl, Nat.add_sub_cancel, Nat.not_lt_zero, lN_0, lN_1e4, lN_1e6, lN_1e3, lN_add, lN_mul, lN_ltI, lN_leI, lN_eqI, lN_i, lcE, lcLe, lcLt, lN_div, q7, q12, q20, q99, q200, q999, q1e4, if_true, if_false, Nat.le_refl]
    cases hq : nrK (ldo st) h m (nOf (ldo st)) with
    | none =>
      obtain ⟨k, hk⟩ : ∃ k, nOf (ldo st) = k + 1 := ⟨nOf (ldo st) - 1, by omega⟩
      rw [hk] at hq
      exact absurd hq nrK_n
    | some b => rw [hq] at q; exact d51 hx q
  · have hn := num_in (ldo st) o m
    have hd := dif_le hn hlv
    refine sg222_43 l G _ 332 _ _ _ _ _ _ ?_
    try simp (disch := omega) only [hM0.1.1.2.1.all, hM0.1.1.2.2.1, hM0.1.1.2.2.2.1.all, hM0.1.1.2.2.2.all, hM0.1.2, hM0.2, ho, wr_s, in_nI, clN, ti_z, ti_l, true_and, and_true, kI, zI, rI, kL, zL, rL, kR, zR, nnI, nnL, nnR, iL, iR, lI, lR, exi, exl, exv, eq_self, nI_add, nI_mul, nI_ltI, nI_leI, nI_eq, q0, q1, q2, q3, q4, q5, q6, q10, q100, br_Tr, br_Fa, iI_s, iI_n, bI_q0, bI_q1, or_true, true_or, not_true_eq_false, not_false_eq_true, nI_l, ge64, Nat.lt_irrefl, Nat.add_sub_cancel, Nat.not_lt_zero, lN_0, lN_1e4, lN_1e6, lN_1e3, lN_add, lN_mul, lN_ltI, lN_leI, lN_eqI, lN_i, lcE, lcLe, lcLt, lN_div, q7, q12, q20, q99, q200, q999, q1e4, if_true, if_false, Nat.le_refl]
    refine d204 hM ho (by omega) ?_
    try simp (disch := omega) only [wr_s, in_nI, clN, ti_z, ti_l, true_and, and_true, kI, zI, rI, kL, zL, rL, kR, zR, nnI, nnL, nnR, iL, iR, lI, lR, exi, exl, exv, eq_self, nI_add, nI_mul, nI_ltI, nI_leI, nI_eq, q0, q1, q2, q3, q4, q5, q6, q10, q100, br_Tr, br_Fa, iI_s, iI_n, bI_q0, bI_q1, or_true, true_or, not_true_eq_false, not_false_eq_true, nI_l, ge64, Nat.lt_irrefl, Nat.add_sub_cancel, Nat.not_lt_zero, lN_0, lN_1e4, lN_1e6, lN_1e3, lN_add, lN_mul, lN_ltI, lN_leI, lN_eqI, lN_i, lcE, lcLe, lcLt, lN_div, q7, q12, q20, q99, q200, q999, q1e4, if_true, if_false, Nat.le_refl]
    have fin : ax_br (o ≤ 0) (ax_Rw l G ax_h222 (ax_E G ax_h222 (fun x μ' => ∃ v : Int32, x = some (ax_i v) ∧ K v μ')) 43 [(0, ax_r (some 332)), (2, ax_i (nI m)), (3, ax_i (nI (liv (ldo st) h m))), (4, ax_i (nI o)), (5, ax_i (nI (dif (num (ldo st) o m) (liv (ldo st) h m)))), (6, ax_i (nI (o + 1)))] [] 0 0 (sI μ 332 0 (nI 0))) (ax_br (nI (dif (num (ldo st) o m) (liv (ldo st) h m)) < e5 (nrK (ldo st) h m o)) (ax_Rw l G ax_h222 (ax_E G ax_h222 (fun x μ' => ∃ v : Int32, x = some (ax_i v) ∧ K v μ')) 43 [(0, ax_r (some 332)), (2, ax_i (nI m)), (3, ax_i (nI (liv (ldo st) h m))), (4, ax_i (nI o)), (5, ax_i (nI (dif (num (ldo st) o m) (liv (ldo st) h m)))), (6, ax_i (nI (o + 1)))] [] 0 0 (sI μ 332 0 (nI 0))) (ax_Rw l G ax_h222 (ax_E G ax_h222 (fun x μ' => ∃ v : Int32, x = some (ax_i v) ∧ K v μ')) 43 [(0, ax_r (some 332)), (2, ax_i (nI m)), (3, ax_i (nI (liv (ldo st) h m))), (4, ax_i (e8 (nrK (ldo st) h m o))), (5, ax_i (e5 (nrK (ldo st) h m o))), (6, ax_i (nI (o + 1)))] [] 0 0 (sI μ 332 0 (nI 0)))) := by
      unfold nrK at ih
      cases hq : nrK (ldo st) h m o with
      | none =>
        rw [hq] at ih
        refine ax_brc (fun _ => ih) (fun h0 => ?_)
        obtain ⟨k, rfl⟩ : ∃ k, o = k + 1 := ⟨o - 1, by omega⟩
        exact absurd hq nrK_n
      | some b =>
        rw [hq] at ih
        have hi := nrK_in (ldo st) h m o b hq
        simp only at ih
        refine ax_brf (by omega) (br_lt (dif (num (ldo st) o m) (liv (ldo st) h m)) b.2 rfl rfl (by omega) (by omega) (fun h => ?_) (fun h => ?_))
        · rw [if_pos h] at ih; exact ih
        · rw [if_neg (by omega)] at ih; exact ih
    refine ax_brc (fun h3 => ?_) (fun h3 => ?_)
    · rw [neg_dif (by omega) (by omega) h3]; exact fin
    · rw [pos_dif (by omega) (by omega) h3]; exact fin

theorem m189 {x y z : Int32} {K : Int64 → ax_M → Prop} (hx : Mx μ st) (q : ∀ μ', OutM μ μ' → Mx μ' (aGives st x y z).2 → K (aGives st x y z).1 μ') : ax_CL l G 189 [ax_r (some 332), ax_i x, ax_i y, ax_i z] μ K := by
  have hb := hx.bd
  unfold aGives at q
  refine ax_Ct.of (by decide) (Nat.le_of_ble_eq_true rfl) (sg189_0 l G _ 332 _ _ _ _ ?_)
  try simp (disch := omega) only [hx.1.all, wr_s, in_nI, clN, ti_z, ti_l, true_and, and_true, kI, zI, rI, kL, zL, rL, kR, zR, nnI, nnL, nnR, iL, iR, lI, lR, exi, exl, exv, eq_self, nI_add, nI_mul, nI_sub, nI_ltI, nI_leI, nI_eq, q0, q1, q2, q3, q4, q5, q6, q10, q100, br_Tr, br_Fa, iI_s, iI_n, bI_q0, bI_q1, or_true, true_or, not_true_eq_false, not_false_eq_true, nI_l, ge64, Nat.lt_irrefl, Nat.add_sub_cancel, Nat.not_lt_zero, lN_0, lN_1e4, lN_1e6, lN_1e3, lN_add, lN_mul, lN_ltI, lN_leI, lN_eqI, lN_i, lcE, lcLe, lcLt, lN_div, q7, q12, q20, q99, q200, q999, q1e4, if_true, if_false, Nat.le_refl]
  refine d63 hx.s0 ?_
  try simp (disch := omega) only [hx.1.all, wr_s, in_nI, clN, ti_z, ti_l, true_and, and_true, kI, zI, rI, kL, zL, rL, kR, zR, nnI, nnL, nnR, iL, iR, lI, lR, exi, exl, exv, eq_self, nI_add, nI_mul, nI_sub, nI_ltI, nI_leI, nI_eq, q0, q1, q2, q3, q4, q5, q6, q10, q100, br_Tr, br_Fa, iI_s, iI_n, bI_q0, bI_q1, or_true, true_or, not_true_eq_false, not_false_eq_true, nI_l, ge64, Nat.lt_irrefl, Nat.add_sub_cancel, Nat.not_lt_zero, lN_0, lN_1e4, lN_1e6, lN_1e3, lN_add, lN_mul, lN_ltI, lN_leI, lN_eqI, lN_i, lcE, lcLe, lcLt, lN_div, q7, q12, q20, q99, q200, q999, q1e4, if_true, if_false, Nat.le_refl]
  cases h1 : inN x (cn st 6)
  · simp only [h1, Bool.and_false, Bool.false_and, Bool.and_true, Bool.true_and, cond_false, cond_true] at q
    exact ax_brt rfl (d68 hx (by decide) q)
  simp only [h1, Bool.and_false, Bool.false_and, Bool.and_true, Bool.true_and, cond_false, cond_true] at q
  refine ax_brf (by decide) ?_
  refine d64 hx.s0 ?_
  try simp (disch := omega) only [hx.1.all, wr_s, in_nI, clN, ti_z, ti_l, true_and, and_true, kI, zI, rI, kL, zL, rL, kR, zR, nnI, nnL, nnR, iL, iR, lI, lR, exi, exl, exv, eq_self, nI_add, nI_mul, nI_sub, nI_ltI, nI_leI, nI_eq, q0, q1, q2, q3, q4, q5, q6, q10, q100, br_Tr, br_Fa, iI_s, iI_n, bI_q0, bI_q1, or_true, true_or, not_true_eq_false, not_false_eq_true, nI_l, ge64, Nat.lt_irrefl, Nat.add_sub_cancel, Nat.not_lt_zero, lN_0, lN_1e4, lN_1e6, lN_1e3, lN_add, lN_mul, lN_ltI, lN_leI, lN_eqI, lN_i, lcE, lcLe, lcLt, lN_div, q7, q12, q20, q99, q200, q999, q1e4, if_true, if_false, Nat.le_refl]
  cases h2 : inN y (cn st 2)
  · simp only [h2, Bool.and_false, Bool.false_and, Bool.and_true, Bool.true_and, cond_false, cond_true] at q
    exact ax_brt rfl (d68 hx (by decide) q)
  simp only [h2, Bool.and_false, Bool.false_and, Bool.and_true, Bool.true_and, cond_false, cond_true] at q
  refine ax_brf (by decide) ?_
  refine d62 hx.s0 ?_
  try simp (disch := omega) only [hx.1.all, wr_s, in_nI, clN, ti_z, ti_l, true_and, and_true, kI, zI, rI, kL, zL, rL, kR, zR, nnI, nnL, nnR, iL, iR, lI, lR, exi, exl, exv, eq_self, nI_add, nI_mul, nI_sub, nI_ltI, nI_leI, nI_eq, q0, q1, q2, q3, q4, q5, q6, q10, q100, br_Tr, br_Fa, iI_s, iI_n, bI_q0, bI_q1, or_true, true_or, not_true_eq_false, not_false_eq_true, nI_l, ge64, Nat.lt_irrefl, Nat.add_sub_cancel, Nat.not_lt_zero, lN_0, lN_1e4, lN_1e6, lN_1e3, lN_add, lN_mul, lN_ltI, lN_leI, lN_eqI, lN_i, lcE, lcLe, lcLt, lN_div, q7, q12, q20, q99, q200, q999, q1e4, if_true, if_false, Nat.le_refl]
  cases h3 : inN z (cn st 0)
  · simp only [h3, Bool.and_false, Bool.false_and, Bool.and_true, Bool.true_and, cond_false, cond_true] at q
    exact ax_brt rfl (d68 hx (by decide) q)
  simp only [h3, Bool.and_false, Bool.false_and, Bool.and_true, Bool.true_and, cond_false, cond_true] at q
  refine ax_brf (by decide) ?_
  obtain ⟨o, hh1, rfl⟩ := inN_t (by omega) h1
  obtain ⟨t, hh2, rfl⟩ := inN_t (by omega) h2
  obtain ⟨m, hh3, rfl⟩ := inN_t (by omega) h3
  obtain ⟨N, hM0, -, -, he⟩ := hx.mb hh1
  have hM := hM0.s0 (v := nI 0)
  have hbd := hM0.bd
  simp only [cl_nI (show o < 2 ^ 31 by omega), cl_nI (show t < 2 ^ 31 by omega), cl_nI (show m < 2 ^ 31 by omega)] at q
  have hls := lsM_in (a := ldo st) (o := o) (show m < nMo (ldo st) by omega)
  refine d51 hx (fun μ' ho hx' => ?_)
  obtain ⟨N, hM1, -⟩ := hx'.mb' (k := 6) (show o < cn (sT st 0) 6 from hh1)
  have hM1 : MB μ' N (ldo st) := hM1
  try simp (disch := omega) only [hM1.1.1.2.1.all, hM1.1.1.2.2.1, hM1.1.1.2.2.2.1.all, hM1.1.1.2.2.2.all, hM1.1.2, hM1.2, wr_s, in_nI, clN, ti_z, ti_l, true_and, and_true, kI, zI, rI, kL, zL, rL, kR, zR, nnI, nnL, nnR, iL, iR, lI, lR, exi, exl, exv, eq_self, nI_add, nI_mul, nI_sub, nI_ltI, nI_leI, nI_eq, q0, q1, q2, q3, q4, q5, q6, q10, q100, br_Tr, br_Fa, iI_s, iI_n, bI_q0, bI_q1, or_true, true_or, not_true_eq_false, not_false_eq_true, nI_l, ge64, Nat.lt_irrefl, Nat.add_sub_cancel, Nat.not_lt_zero, lN_0, lN_1e4, lN_1e6, lN_1e3, lN_add, lN_mul, lN_ltI, lN_leI, lN_eqI, lN_i, lcE, lcLe, lcLt, lN_div, q7, q12, q20, q99, q200, q999, q1e4, if_true, if_false, Nat.le_refl]
  refine d67 hM1.1.1 (by omega) (by omega) ?_
  try simp (disch := omega) only [hM1.1.1.2.1.all, hM1.1.1.2.2.1, hM1.1.1.2.2.2.1.all, hM1.1.1.2.2.2.all, hM1.1.2, hM1.2, wr_s, in_nI, clN, ti_z, ti_l, true_and, and_true, kI, zI, rI, kL, zL, rL, kR, zR, nnI, nnL, nnR, iL, iR, lI, lR, exi, exl, exv, eq_self, nI_add, nI_mul, nI_sub, nI_ltI, nI_leI, nI_eq, q0, q1, q2, q3, q4, q5, q6, q10, q100, br_Tr, br_Fa, iI_s, iI_n, bI_q0, bI_q1, or_true, true_or, not_true_eq_false, not_false_eq_true, nI_l, ge64, Nat.lt_irrefl, Nat.add_sub_cancel, Nat.not_lt_zero, lN_0, lN_1e4, lN_1e6, lN_1e3, lN_add, lN_mul, lN_ltI, lN_leI, lN_eqI, lN_i, lcE, lcLe, lcLt, lN_div, q7, q12, q20, q99, q200, q999, q1e4, if_true, if_false, Nat.le_refl]
  refine d180 hM1 (by omega) (by omega) hls (by omega) ?_
  try simp (disch := omega) only [wr_s, in_nI, clN, ti_z, ti_l, true_and, and_true, kI, zI, rI, kL, zL, rL, kR, zR, nnI, nnL, nnR, iL, iR, lI, lR, exi, exl, exv, eq_self, nI_add, nI_mul, nI_sub, nI_ltI, nI_leI, nI_eq, q0, q1, q2, q3, q4, q5, q6, q10, q100, br_Tr, br_Fa, iI_s, iI_n, bI_q0, bI_q1, or_true, true_or, not_true_eq_false, not_false_eq_true, nI_l, ge64, Nat.lt_irrefl, Nat.add_sub_cancel, Nat.not_lt_zero, lN_0, lN_1e4, lN_1e6, lN_1e3, lN_add, lN_mul, lN_ltI, lN_leI, lN_eqI, lN_i, lcE, lcLe, lcLt, lN_div, q7, q12, q20, q99, q200, q999, q1e4, if_true, if_false, Nat.le_refl]
  exact q _ ho hx'

end F6
