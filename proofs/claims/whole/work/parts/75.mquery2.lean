/-! the model: more queries -/
theorem inN2 (w : Int32) : inN w 2 = (decide (w = nI 0) || decide (w = nI 1)) := by
  cases h : inN w 2
  · rw [decide_eq_false (fun e => by rw [e, inN_of (by omega) (by omega)] at h; cases h), decide_eq_false (fun e => by rw [e, inN_of (by omega) (by omega)] at h; cases h)]; rfl
  · obtain ⟨j, hj, rfl⟩ := inN_t (by omega) h
    rcases (show j = 0 ∨ j = 1 by omega) with rfl | rfl <;> rfl
def bcM : Nat → Int32 → Nat → Option Nat
  | 0, _, _ => none
  | f + 1, x, n => if x = nI 0 then some n else bcM f (x &&& (x - nI 1)) (n + 1)
theorem bcM_ok : ∀ s, s < 256 → bcM 9 (nI s) 0 = some (bts s) := by decide +kernel
theorem bcM_go {l : Launch} {G : ax_G} {μ : ax_M} {K : Int32 → ax_M → Prop} {r : Nat} (q : K (nI r) μ) : ∀ (f : Nat) (x : Int32) (n : Nat), bcM f x n = some r → (ax_Rw l G ax_h48 (ax_E G ax_h48 (fun x μ' => ∃ v : Int32, x = some (ax_i v) ∧ K v μ')) 4 [(1, ax_i (nI n)), (2, ax_i x)] [] 0 0 μ)
  | 0, x, n, h => by cases h
  | f + 1, x, n, h => by
    unfold bcM at h
    refine sg48_4 l G _ _ _ _ ?_
    try simp (disch := omega) only [wr_s, in_nI, clN, ti_z, ti_l, true_and, and_true, kI, zI, rI, kL, zL, rL, kR, zR, nnI, nnL, nnR, iL, iR, lI, lR, exi, exl, exv, eq_self, nI_add, nI_mul, nI_sub, nI_ltI, nI_leI, q0, q1, q2, q3, q4, q5, q6, q10, q100, br_Tr, br_Fa, iI_s, iI_n, bI_q0, bI_q1, or_true, true_or, not_true_eq_false, not_false_eq_true, nI_l, ge64, Nat.lt_irrefl, Nat.add_sub_cancel, Nat.not_lt_zero, lN_0, lN_1e4, lN_1e6, lN_1e3, lN_add, lN_mul, lN_ltI, lN_leI, lN_eqI, lN_i, lcE, lcLe, lcLt, lN_div, q7, q12, q20, q99, q200, q999, q1e4, if_true, if_false, Nat.le_refl]
    refine ax_brc (fun e => ?_) (fun e => ?_)
    · rw [if_pos e] at h; cases h; exact q
    · rw [if_neg e] at h; exact bcM_go q f _ _ h
section F7
variable {l : Launch} {G : ax_G} {μ : ax_M} {st : St}
theorem d48 {s : Nat} {K : Int32 → ax_M → Prop} (hs : s < 256) (q : K (nI (bts s)) μ) : ax_CI l G 48 [ax_i (nI s)] μ K := by
  refine ax_Ct.of (by decide) (Nat.le_of_ble_eq_true rfl) (sg48_0 l G _ _ _ ?_)
  exact bcM_go q 9 _ 0 (bcM_ok s hs)
theorem m121 {x y z : Int32} {K : Int32 → ax_M → Prop} (hx : Mx μ st) (q : ∀ μ', OutM μ μ' → Mx μ' st → K (aThing st x y z) μ') : ax_CI l G 121 [ax_r (some 332), ax_i x, ax_i y, ax_i z] μ K := by
  have hb := hx.bd
  have q := q _ (OutM.s0 (v := nI 0)) hx.s0
  unfold aThing at q
  refine ax_Ct.of (by decide) (Nat.le_of_ble_eq_true rfl) (sg121_0 l G _ 332 _ _ _ _ ?_)
  try simp (disch := omega) only [hx.1.all, wr_s, in_nI, clN, ti_z, ti_l, true_and, and_true, kI, zI, rI, kL, zL, rL, kR, zR, nnI, nnL, nnR, iL, iR, lI, lR, exi, exl, exv, eq_self, nI_add, nI_mul, nI_sub, nI_ltI, nI_leI, nI_eq, q0, q1, q2, q3, q4, q5, q6, q10, q100, br_Tr, br_Fa, iI_s, iI_n, bI_q0, bI_q1, or_true, true_or, not_true_eq_false, not_false_eq_true, nI_l, ge64, Nat.lt_irrefl, Nat.add_sub_cancel, Nat.not_lt_zero, lN_0, lN_1e4, lN_1e6, lN_1e3, lN_add, lN_mul, lN_ltI, lN_leI, lN_eqI, lN_i, lcE, lcLe, lcLt, lN_div, q7, q12, q20, q99, q200, q999, q1e4, if_true, if_false, Nat.le_refl]
  refine d64 hx.s0 ?_
  try simp (disch := omega) only [hx.1.all, wr_s, in_nI, clN, ti_z, ti_l, true_and, and_true, kI, zI, rI, kL, zL, rL, kR, zR, nnI, nnL, nnR, iL, iR, lI, lR, exi, exl, exv, eq_self, nI_add, nI_mul, nI_sub, nI_ltI, nI_leI, nI_eq, q0, q1, q2, q3, q4, q5, q6, q10, q100, br_Tr, br_Fa, iI_s, iI_n, bI_q0, bI_q1, or_true, true_or, not_true_eq_false, not_false_eq_true, nI_l, ge64, Nat.lt_irrefl, Nat.add_sub_cancel, Nat.not_lt_zero, lN_0, lN_1e4, lN_1e6, lN_1e3, lN_add, lN_mul, lN_ltI, lN_leI, lN_eqI, lN_i, lcE, lcLe, lcLt, lN_div, q7, q12, q20, q99, q200, q999, q1e4, if_true, if_false, Nat.le_refl]
  cases h1 : inN x (cn st 2)
  · simp only [h1, Bool.and_false, Bool.false_and, Bool.and_true, Bool.true_and, cond_false, cond_true] at q
    exact ax_brt rfl (q)
  simp only [h1, Bool.and_false, Bool.false_and, Bool.and_true, Bool.true_and, cond_false, cond_true] at q
  refine ax_brf (by decide) ?_
  refine d62 hx.s0 ?_
  try simp (disch := omega) only [hx.1.all, wr_s, in_nI, clN, ti_z, ti_l, true_and, and_true, kI, zI, rI, kL, zL, rL, kR, zR, nnI, nnL, nnR, iL, iR, lI, lR, exi, exl, exv, eq_self, nI_add, nI_mul, nI_sub, nI_ltI, nI_leI, nI_eq, q0, q1, q2, q3, q4, q5, q6, q10, q100, br_Tr, br_Fa, iI_s, iI_n, bI_q0, bI_q1, or_true, true_or, not_true_eq_false, not_false_eq_true, nI_l, ge64, Nat.lt_irrefl, Nat.add_sub_cancel, Nat.not_lt_zero, lN_0, lN_1e4, lN_1e6, lN_1e3, lN_add, lN_mul, lN_ltI, lN_leI, lN_eqI, lN_i, lcE, lcLe, lcLt, lN_div, q7, q12, q20, q99, q200, q999, q1e4, if_true, if_false, Nat.le_refl]
  cases h2 : inN y (cn st 0)
  · simp only [h2, Bool.and_false, Bool.false_and, Bool.and_true, Bool.true_and, cond_false, cond_true] at q
    exact ax_brt rfl (q)
  simp only [h2, Bool.and_false, Bool.false_and, Bool.and_true, Bool.true_and, cond_false, cond_true] at q
  refine ax_brf (by decide) ?_
  refine d57 (n := 4) (by omega) ?_
  try simp (disch := omega) only [hx.1.all, wr_s, in_nI, clN, ti_z, ti_l, true_and, and_true, kI, zI, rI, kL, zL, rL, kR, zR, nnI, nnL, nnR, iL, iR, lI, lR, exi, exl, exv, eq_self, nI_add, nI_mul, nI_sub, nI_ltI, nI_leI, nI_eq, q0, q1, q2, q3, q4, q5, q6, q10, q100, br_Tr, br_Fa, iI_s, iI_n, bI_q0, bI_q1, or_true, true_or, not_true_eq_false, not_false_eq_true, nI_l, ge64, Nat.lt_irrefl, Nat.add_sub_cancel, Nat.not_lt_zero, lN_0, lN_1e4, lN_1e6, lN_1e3, lN_add, lN_mul, lN_ltI, lN_leI, lN_eqI, lN_i, lcE, lcLe, lcLt, lN_div, q7, q12, q20, q99, q200, q999, q1e4, if_true, if_false, Nat.le_refl]
  unfold thV at q
  cases h3 : inN z 5
  · have hne : ∀ j, j < 5 → ¬ z = nI j := fun j hj e => by
      rw [e, inN_of hj (by omega)] at h3; cases h3
    rw [if_neg (hne 0 (by omega)), if_neg (hne 1 (by omega)), if_neg (hne 2 (by omega)), if_neg (hne 3 (by omega)), if_neg (hne 4 (by omega))] at q
    exact ax_brt rfl q
  refine ax_brf (by decide) ?_
  obtain ⟨t, hh1, rfl⟩ := inN_t (by omega) h1
  obtain ⟨m, hh2, rfl⟩ := inN_t (by omega) h2
  obtain ⟨N, hM0, -, -, he⟩ := hx.mb hh1
  have hM := hM0.s0 (v := nI 0)
  have hbd := hM0.bd
  simp only [cl_nI (show t < 2 ^ 31 by omega), cl_nI (show m < 2 ^ 31 by omega)] at q
  refine d50 ?_
  try simp (disch := omega) only [hM0.1.1.2.1.all, hM0.1.1.2.2.1, hM0.1.1.2.2.2.1.all, hM0.1.1.2.2.2.all, hM0.1.2, hM0.2, wr_s, in_nI, clN, ti_z, ti_l, true_and, and_true, kI, zI, rI, kL, zL, rL, kR, zR, nnI, nnL, nnR, iL, iR, lI, lR, exi, exl, exv, eq_self, nI_add, nI_mul, nI_sub, nI_ltI, nI_leI, nI_eq, q0, q1, q2, q3, q4, q5, q6, q10, q100, br_Tr, br_Fa, iI_s, iI_n, bI_q0, bI_q1, or_true, true_or, not_true_eq_false, not_false_eq_true, nI_l, ge64, Nat.lt_irrefl, Nat.add_sub_cancel, Nat.not_lt_zero, lN_0, lN_1e4, lN_1e6, lN_1e3, lN_add, lN_mul, lN_ltI, lN_leI, lN_eqI, lN_i, lcE, lcLe, lcLt, lN_div, q7, q12, q20, q99, q200, q999, q1e4, if_true, if_false, Nat.le_refl]
  refine ax_brc (fun e => by rw [if_pos e] at q; exact q) (fun e0 => ?_)
  rw [if_neg e0] at q
  refine ax_brc (fun e => by rw [if_pos e] at q; exact q) (fun e1 => ?_)
  rw [if_neg e1] at q
  refine ax_brc (fun e => by rw [if_pos e] at q; exact q) (fun e2 => ?_)
  rw [if_neg e2] at q
  refine ax_brc (fun e => ?_) (fun e3 => ?_)
  · rw [if_pos e] at q
    refine ax_brc (fun h => by rw [h] at q; exact q) (fun h => by rw [show Tr (ldo st) t m = true by simpa using h] at q; exact q)
  rw [if_neg e3] at q
  have e4 : z = nI 4 := by
    obtain ⟨j, hj, rfl⟩ := inN_t (by omega) h3
    rcases (show j = 0 ∨ j = 1 ∨ j = 2 ∨ j = 3 ∨ j = 4 by omega) with rfl | rfl | rfl | rfl | rfl
    · exact absurd rfl e0
    · exact absurd rfl e1
    · exact absurd rfl e2
    · exact absurd rfl e3
    · rfl
  rw [if_pos e4] at q
  exact q

theorem m106 {x y z w : Int32} {K : Int32 → ax_M → Prop} (hx : Mx μ st) (q : ∀ μ', OutM μ μ' → Mx μ' (aBuys st x y z w).2 → K (aBuys st x y z w).1 μ') : ax_CI l G 106 [ax_r (some 332), ax_i x, ax_i y, ax_i z, ax_i w] μ K := by
  have hb := hx.bd
  unfold aBuys aQ at q
  rw [← inN2] at q
  refine ax_Ct.of (by decide) (Nat.le_of_ble_eq_true rfl) (sg106_0 l G _ 332 _ _ _ _ _ ?_)
  try simp (disch := omega) only [hx.1.all, wr_s, in_nI, clN, ti_z, ti_l, true_and, and_true, kI, zI, rI, kL, zL, rL, kR, zR, nnI, nnL, nnR, iL, iR, lI, lR, exi, exl, exv, eq_self, nI_add, nI_mul, nI_sub, nI_ltI, nI_leI, nI_eq, q0, q1, q2, q3, q4, q5, q6, q10, q100, br_Tr, br_Fa, iI_s, iI_n, bI_q0, bI_q1, or_true, true_or, not_true_eq_false, not_false_eq_true, nI_l, ge64, Nat.lt_irrefl, Nat.add_sub_cancel, Nat.not_lt_zero, lN_0, lN_1e4, lN_1e6, lN_1e3, lN_add, lN_mul, lN_ltI, lN_leI, lN_eqI, lN_i, lcE, lcLe, lcLt, lN_div, q7, q12, q20, q99, q200, q999, q1e4, if_true, if_false, Nat.le_refl]
  refine d60 hx.s0 ?_
  try simp (disch := omega) only [hx.1.all, wr_s, in_nI, clN, ti_z, ti_l, true_and, and_true, kI, zI, rI, kL, zL, rL, kR, zR, nnI, nnL, nnR, iL, iR, lI, lR, exi, exl, exv, eq_self, nI_add, nI_mul, nI_sub, nI_ltI, nI_leI, nI_eq, q0, q1, q2, q3, q4, q5, q6, q10, q100, br_Tr, br_Fa, iI_s, iI_n, bI_q0, bI_q1, or_true, true_or, not_true_eq_false, not_false_eq_true, nI_l, ge64, Nat.lt_irrefl, Nat.add_sub_cancel, Nat.not_lt_zero, lN_0, lN_1e4, lN_1e6, lN_1e3, lN_add, lN_mul, lN_ltI, lN_leI, lN_eqI, lN_i, lcE, lcLe, lcLt, lN_div, q7, q12, q20, q99, q200, q999, q1e4, if_true, if_false, Nat.le_refl]
  cases h1 : inN x (cn st 5)
  · simp only [h1, Bool.and_false, Bool.false_and, Bool.and_true, Bool.true_and, cond_false, cond_true] at q
    exact ax_brt rfl (d68 hx (by decide) q)
  simp only [h1, Bool.and_false, Bool.false_and, Bool.and_true, Bool.true_and, cond_false, cond_true] at q
  refine ax_brf (by decide) ?_
  refine d59 hx.s0 ?_
  try simp (disch := omega) only [hx.1.all, wr_s, in_nI, clN, ti_z, ti_l, true_and, and_true, kI, zI, rI, kL, zL, rL, kR, zR, nnI, nnL, nnR, iL, iR, lI, lR, exi, exl, exv, eq_self, nI_add, nI_mul, nI_sub, nI_ltI, nI_leI, nI_eq, q0, q1, q2, q3, q4, q5, q6, q10, q100, br_Tr, br_Fa, iI_s, iI_n, bI_q0, bI_q1, or_true, true_or, not_true_eq_false, not_false_eq_true, nI_l, ge64, Nat.lt_irrefl, Nat.add_sub_cancel, Nat.not_lt_zero, lN_0, lN_1e4, lN_1e6, lN_1e3, lN_add, lN_mul, lN_ltI, lN_leI, lN_eqI, lN_i, lcE, lcLe, lcLt, lN_div, q7, q12, q20, q99, q200, q999, q1e4, if_true, if_false, Nat.le_refl]
  cases h2 : inN y (cn st 1)
  · simp only [h2, Bool.and_false, Bool.false_and, Bool.and_true, Bool.true_and, cond_false, cond_true] at q
    exact ax_brt rfl (d68 hx (by decide) q)
  simp only [h2, Bool.and_false, Bool.false_and, Bool.and_true, Bool.true_and, cond_false, cond_true] at q
  refine ax_brf (by decide) ?_
  refine d62 hx.s0 ?_
  try simp (disch := omega) only [hx.1.all, wr_s, in_nI, clN, ti_z, ti_l, true_and, and_true, kI, zI, rI, kL, zL, rL, kR, zR, nnI, nnL, nnR, iL, iR, lI, lR, exi, exl, exv, eq_self, nI_add, nI_mul, nI_sub, nI_ltI, nI_leI, nI_eq, q0, q1, q2, q3, q4, q5, q6, q10, q100, br_Tr, br_Fa, iI_s, iI_n, bI_q0, bI_q1, or_true, true_or, not_true_eq_false, not_false_eq_true, nI_l, ge64, Nat.lt_irrefl, Nat.add_sub_cancel, Nat.not_lt_zero, lN_0, lN_1e4, lN_1e6, lN_1e3, lN_add, lN_mul, lN_ltI, lN_leI, lN_eqI, lN_i, lcE, lcLe, lcLt, lN_div, q7, q12, q20, q99, q200, q999, q1e4, if_true, if_false, Nat.le_refl]
  cases h3 : inN z (cn st 0)
  · simp only [h3, Bool.and_false, Bool.false_and, Bool.and_true, Bool.true_and, cond_false, cond_true] at q
    exact ax_brt rfl (d68 hx (by decide) q)
  simp only [h3, Bool.and_false, Bool.false_and, Bool.and_true, Bool.true_and, cond_false, cond_true] at q
  refine ax_brf (by decide) ?_
  refine d57 (n := 1) (by omega) ?_
  try simp (disch := omega) only [hx.1.all, wr_s, in_nI, clN, ti_z, ti_l, true_and, and_true, kI, zI, rI, kL, zL, rL, kR, zR, nnI, nnL, nnR, iL, iR, lI, lR, exi, exl, exv, eq_self, nI_add, nI_mul, nI_sub, nI_ltI, nI_leI, nI_eq, q0, q1, q2, q3, q4, q5, q6, q10, q100, br_Tr, br_Fa, iI_s, iI_n, bI_q0, bI_q1, or_true, true_or, not_true_eq_false, not_false_eq_true, nI_l, ge64, Nat.lt_irrefl, Nat.add_sub_cancel, Nat.not_lt_zero, lN_0, lN_1e4, lN_1e6, lN_1e3, lN_add, lN_mul, lN_ltI, lN_leI, lN_eqI, lN_i, lcE, lcLe, lcLt, lN_div, q7, q12, q20, q99, q200, q999, q1e4, if_true, if_false, Nat.le_refl]
  cases h4 : inN w 2
  · simp only [h4, Bool.and_false, Bool.false_and, Bool.and_true, Bool.true_and, cond_false, cond_true] at q
    exact ax_brt rfl (d68 hx (by decide) q)
  simp only [h4, Bool.and_false, Bool.false_and, Bool.and_true, Bool.true_and, cond_false, cond_true] at q
  refine ax_brf (by decide) ?_
  obtain ⟨h, hh1, rfl⟩ := inN_t (by omega) h1
  obtain ⟨g, hh2, rfl⟩ := inN_t (by omega) h2
  obtain ⟨m, hh3, rfl⟩ := inN_t (by omega) h3
  obtain ⟨N, hM0, -, -, he⟩ := hx.mb hh1
  have hM := hM0.s0 (v := nI 0)
  have hbd := hM0.bd
  simp only [cl_nI (show h < 2 ^ 31 by omega), cl_nI (show g < 2 ^ 31 by omega), cl_nI (show m < 2 ^ 31 by omega)] at q
  have hw9 := (hM0.1.1.1.hw (show h < nHo (ldo st) by omega)).2.2 g (by omega)
  try simp (disch := omega) only [hM0.1.1.2.1.all, hM0.1.1.2.2.1, hM0.1.1.2.2.2.1.all, hM0.1.1.2.2.2.all, hM0.1.2, hM0.2, wr_s, in_nI, clN, ti_z, ti_l, true_and, and_true, kI, zI, rI, kL, zL, rL, kR, zR, nnI, nnL, nnR, iL, iR, lI, lR, exi, exl, exv, eq_self, nI_add, nI_mul, nI_sub, nI_ltI, nI_leI, nI_eq, q0, q1, q2, q3, q4, q5, q6, q10, q100, br_Tr, br_Fa, iI_s, iI_n, bI_q0, bI_q1, or_true, true_or, not_true_eq_false, not_false_eq_true, nI_l, ge64, Nat.lt_irrefl, Nat.add_sub_cancel, Nat.not_lt_zero, lN_0, lN_1e4, lN_1e6, lN_1e3, lN_add, lN_mul, lN_ltI, lN_leI, lN_eqI, lN_i, lcE, lcLe, lcLt, lN_div, q7, q12, q20, q99, q200, q999, q1e4, if_true, if_false, Nat.le_refl]
  refine ax_brc (fun h0 => ?_) (fun h0 => ?_)
  · rw [show decide (0 < hW (ldo st) h g) = false by simp [h0]] at q
    exact d68 hx (by decide) q
  · have hw0 : 0 < hW (ldo st) h g := by omega
    rw [show decide (0 < hW (ldo st) h g) = true by simp [hw0]] at q
    refine ax_brc (fun e => ?_) (fun e => ?_)
    · rw [if_pos e] at q
      refine d72 ?_
      try simp (disch := omega) only [hM0.1.1.2.1.all, hM0.1.1.2.2.1, hM0.1.1.2.2.2.1.all, hM0.1.1.2.2.2.all, hM0.1.2, hM0.2, wr_s, in_nI, clN, ti_z, ti_l, true_and, and_true, kI, zI, rI, kL, zL, rL, kR, zR, nnI, nnL, nnR, iL, iR, lI, lR, exi, exl, exv, eq_self, nI_add, nI_mul, nI_sub, nI_ltI, nI_leI, nI_eq, q0, q1, q2, q3, q4, q5, q6, q10, q100, br_Tr, br_Fa, iI_s, iI_n, bI_q0, bI_q1, or_true, true_or, not_true_eq_false, not_false_eq_true, nI_l, ge64, Nat.lt_irrefl, Nat.add_sub_cancel, Nat.not_lt_zero, lN_0, lN_1e4, lN_1e6, lN_1e3, lN_add, lN_mul, lN_ltI, lN_leI, lN_eqI, lN_i, lcE, lcLe, lcLt, lN_div, q7, q12, q20, q99, q200, q999, q1e4, if_true, if_false, Nat.le_refl]
      exact d51 hx q
    · rw [if_neg e] at q
      refine d72 ?_
      try simp (disch := omega) only [hM0.1.1.2.1.all, hM0.1.1.2.2.1, hM0.1.1.2.2.2.1.all, hM0.1.1.2.2.2.all, hM0.1.2, hM0.2, wr_s, in_nI, clN, ti_z, ti_l, true_and, and_true, kI, zI, rI, kL, zL, rL, kR, zR, nnI, nnL, nnR, iL, iR, lI, lR, exi, exl, exv, eq_self, nI_add, nI_mul, nI_sub, nI_ltI, nI_leI, nI_eq, q0, q1, q2, q3, q4, q5, q6, q10, q100, br_Tr, br_Fa, iI_s, iI_n, bI_q0, bI_q1, or_true, true_or, not_true_eq_false, not_false_eq_true, nI_l, ge64, Nat.lt_irrefl, Nat.add_sub_cancel, Nat.not_lt_zero, lN_0, lN_1e4, lN_1e6, lN_1e3, lN_add, lN_mul, lN_ltI, lN_leI, lN_eqI, lN_i, lcE, lcLe, lcLt, lN_div, q7, q12, q20, q99, q200, q999, q1e4, if_true, if_false, Nat.le_refl]
      exact d51 hx q

theorem m232 {x w : Int32} {K : Int32 → ax_M → Prop} (hx : Mx μ st) (q : ∀ μ', OutM μ μ' → Mx μ' (aHas st x w).2 → K (aHas st x w).1 μ') : ax_CI l G 232 [ax_r (some 332), ax_i x, ax_i w] μ K := by
  have hb := hx.bd
  unfold aHas aQ at q
  refine ax_Ct.of (by decide) (Nat.le_of_ble_eq_true rfl) (sg232_0 l G _ 332 _ _ _ ?_)
  try simp (disch := omega) only [hx.1.all, wr_s, in_nI, clN, ti_z, ti_l, true_and, and_true, kI, zI, rI, kL, zL, rL, kR, zR, nnI, nnL, nnR, iL, iR, lI, lR, exi, exl, exv, eq_self, nI_add, nI_mul, nI_sub, nI_ltI, nI_leI, nI_eq, q0, q1, q2, q3, q4, q5, q6, q10, q100, br_Tr, br_Fa, iI_s, iI_n, bI_q0, bI_q1, or_true, true_or, not_true_eq_false, not_false_eq_true, nI_l, ge64, Nat.lt_irrefl, Nat.add_sub_cancel, Nat.not_lt_zero, lN_0, lN_1e4, lN_1e6, lN_1e3, lN_add, lN_mul, lN_ltI, lN_leI, lN_eqI, lN_i, lcE, lcLe, lcLt, lN_div, q7, q12, q20, q99, q200, q999, q1e4, if_true, if_false, Nat.le_refl]
  refine d63 hx.s0 ?_
  try simp (disch := omega) only [hx.1.all, wr_s, in_nI, clN, ti_z, ti_l, true_and, and_true, kI, zI, rI, kL, zL, rL, kR, zR, nnI, nnL, nnR, iL, iR, lI, lR, exi, exl, exv, eq_self, nI_add, nI_mul, nI_sub, nI_ltI, nI_leI, nI_eq, q0, q1, q2, q3, q4, q5, q6, q10, q100, br_Tr, br_Fa, iI_s, iI_n, bI_q0, bI_q1, or_true, true_or, not_true_eq_false, not_false_eq_true, nI_l, ge64, Nat.lt_irrefl, Nat.add_sub_cancel, Nat.not_lt_zero, lN_0, lN_1e4, lN_1e6, lN_1e3, lN_add, lN_mul, lN_ltI, lN_leI, lN_eqI, lN_i, lcE, lcLe, lcLt, lN_div, q7, q12, q20, q99, q200, q999, q1e4, if_true, if_false, Nat.le_refl]
  cases h1 : inN x (cn st 6)
  · simp only [h1, Bool.and_false, Bool.false_and, Bool.and_true, Bool.true_and, cond_false, cond_true] at q
    exact ax_brt rfl (d68 hx (by decide) q)
  simp only [h1, Bool.and_false, Bool.false_and, Bool.and_true, Bool.true_and, cond_false, cond_true] at q
  refine ax_brf (by decide) ?_
  refine d57 (n := 2) (by omega) ?_
  try simp (disch := omega) only [hx.1.all, wr_s, in_nI, clN, ti_z, ti_l, true_and, and_true, kI, zI, rI, kL, zL, rL, kR, zR, nnI, nnL, nnR, iL, iR, lI, lR, exi, exl, exv, eq_self, nI_add, nI_mul, nI_sub, nI_ltI, nI_leI, nI_eq, q0, q1, q2, q3, q4, q5, q6, q10, q100, br_Tr, br_Fa, iI_s, iI_n, bI_q0, bI_q1, or_true, true_or, not_true_eq_false, not_false_eq_true, nI_l, ge64, Nat.lt_irrefl, Nat.add_sub_cancel, Nat.not_lt_zero, lN_0, lN_1e4, lN_1e6, lN_1e3, lN_add, lN_mul, lN_ltI, lN_leI, lN_eqI, lN_i, lcE, lcLe, lcLt, lN_div, q7, q12, q20, q99, q200, q999, q1e4, if_true, if_false, Nat.le_refl]
  cases h2 : inN w 3
  · simp only [h2, Bool.and_false, Bool.false_and, Bool.and_true, Bool.true_and, cond_false, cond_true] at q
    exact ax_brt rfl (d68 hx (by decide) q)
  simp only [h2, Bool.and_false, Bool.false_and, Bool.and_true, Bool.true_and, cond_false, cond_true] at q
  refine ax_brf (by decide) ?_
  obtain ⟨o, hh1, rfl⟩ := inN_t (by omega) h1
  obtain ⟨N, hM0, -, -, he⟩ := hx.mb hh1
  have hM := hM0.s0 (v := nI 0)
  have hbd := hM0.bd
  simp only [cl_nI (show o < 2 ^ 31 by omega)] at q
  refine ax_brc (fun e => ?_) (fun e0 => ?_)
  · have e1 : hasV (ldo st) o w = hs0 (ldo st) o := if_pos e
    rw [e1] at q
    refine d219 hM (by omega) ?_
    try simp (disch := omega) only [hM0.1.1.2.1.all, hM0.1.1.2.2.1, hM0.1.1.2.2.2.1.all, hM0.1.1.2.2.2.all, hM0.1.2, hM0.2, wr_s, in_nI, clN, ti_z, ti_l, true_and, and_true, kI, zI, rI, kL, zL, rL, kR, zR, nnI, nnL, nnR, iL, iR, lI, lR, exi, exl, exv, eq_self, nI_add, nI_mul, nI_sub, nI_ltI, nI_leI, nI_eq, q0, q1, q2, q3, q4, q5, q6, q10, q100, br_Tr, br_Fa, iI_s, iI_n, bI_q0, bI_q1, or_true, true_or, not_true_eq_false, not_false_eq_true, nI_l, ge64, Nat.lt_irrefl, Nat.add_sub_cancel, Nat.not_lt_zero, lN_0, lN_1e4, lN_1e6, lN_1e3, lN_add, lN_mul, lN_ltI, lN_leI, lN_eqI, lN_i, lcE, lcLe, lcLt, lN_div, q7, q12, q20, q99, q200, q999, q1e4, if_true, if_false, Nat.le_refl]
    refine ax_brc (fun h => by rw [h] at q; exact d51 hx q) (fun h => by rw [show hs0 (ldo st) o = true by simpa using h] at q; exact d51 hx q)
  refine ax_brc (fun e => ?_) (fun e => ?_)
  · have e1 : hasV (ldo st) o w = hs1 (ldo st) o := (if_neg e0).trans (if_pos e)
    rw [e1] at q
    refine d151 hM (by omega) ?_
    try simp (disch := omega) only [hM0.1.1.2.1.all, hM0.1.1.2.2.1, hM0.1.1.2.2.2.1.all, hM0.1.1.2.2.2.all, hM0.1.2, hM0.2, wr_s, in_nI, clN, ti_z, ti_l, true_and, and_true, kI, zI, rI, kL, zL, rL, kR, zR, nnI, nnL, nnR, iL, iR, lI, lR, exi, exl, exv, eq_self, nI_add, nI_mul, nI_sub, nI_ltI, nI_leI, nI_eq, q0, q1, q2, q3, q4, q5, q6, q10, q100, br_Tr, br_Fa, iI_s, iI_n, bI_q0, bI_q1, or_true, true_or, not_true_eq_false, not_false_eq_true, nI_l, ge64, Nat.lt_irrefl, Nat.add_sub_cancel, Nat.not_lt_zero, lN_0, lN_1e4, lN_1e6, lN_1e3, lN_add, lN_mul, lN_ltI, lN_leI, lN_eqI, lN_i, lcE, lcLe, lcLt, lN_div, q7, q12, q20, q99, q200, q999, q1e4, if_true, if_false, Nat.le_refl]
    refine ax_brc (fun h => by rw [h] at q; exact d51 hx q) (fun h => by rw [show hs1 (ldo st) o = true by simpa using h] at q; exact d51 hx q)
  · have e1 : hasV (ldo st) o w = hs2 (ldo st) o := (if_neg e0).trans (if_neg e)
    rw [e1] at q
    refine d218 hM (by omega) ?_
    try simp (disch := omega) only [hM0.1.1.2.1.all, hM0.1.1.2.2.1, hM0.1.1.2.2.2.1.all, hM0.1.1.2.2.2.all, hM0.1.2, hM0.2, wr_s, in_nI, clN, ti_z, ti_l, true_and, and_true, kI, zI, rI, kL, zL, rL, kR, zR, nnI, nnL, nnR, iL, iR, lI, lR, exi, exl, exv, eq_self, nI_add, nI_mul, nI_sub, nI_ltI, nI_leI, nI_eq, q0, q1, q2, q3, q4, q5, q6, q10, q100, br_Tr, br_Fa, iI_s, iI_n, bI_q0, bI_q1, or_true, true_or, not_true_eq_false, not_false_eq_true, nI_l, ge64, Nat.lt_irrefl, Nat.add_sub_cancel, Nat.not_lt_zero, lN_0, lN_1e4, lN_1e6, lN_1e3, lN_add, lN_mul, lN_ltI, lN_leI, lN_eqI, lN_i, lcE, lcLe, lcLt, lN_div, q7, q12, q20, q99, q200, q999, q1e4, if_true, if_false, Nat.le_refl]
    refine ax_brc (fun h => by rw [h] at q; exact d51 hx q) (fun h => by rw [show hs2 (ldo st) o = true by simpa using h] at q; exact d51 hx q)

theorem m150 {x y z : Int32} {K : Int32 → ax_M → Prop} (hx : Mx μ st) (q : ∀ μ', OutM μ μ' → Mx μ' (aInstead st x y z).2 → K (aInstead st x y z).1 μ') : ax_CI l G 150 [ax_r (some 332), ax_i x, ax_i y, ax_i z] μ K := by
  have hb := hx.bd
  unfold aInstead aQ at q
  rw [← inN2] at q
  refine ax_Ct.of (by decide) (Nat.le_of_ble_eq_true rfl) (sg150_0 l G _ 332 _ _ _ _ ?_)
  try simp (disch := omega) only [hx.1.all, wr_s, in_nI, clN, ti_z, ti_l, true_and, and_true, kI, zI, rI, kL, zL, rL, kR, zR, nnI, nnL, nnR, iL, iR, lI, lR, exi, exl, exv, eq_self, nI_add, nI_mul, nI_sub, nI_ltI, nI_leI, nI_eq, q0, q1, q2, q3, q4, q5, q6, q10, q100, br_Tr, br_Fa, iI_s, iI_n, bI_q0, bI_q1, or_true, true_or, not_true_eq_false, not_false_eq_true, nI_l, ge64, Nat.lt_irrefl, Nat.add_sub_cancel, Nat.not_lt_zero, lN_0, lN_1e4, lN_1e6, lN_1e3, lN_add, lN_mul, lN_ltI, lN_leI, lN_eqI, lN_i, lcE, lcLe, lcLt, lN_div, q7, q12, q20, q99, q200, q999, q1e4, if_true, if_false, Nat.le_refl]
  refine d60 hx.s0 ?_
  try simp (disch := omega) only [hx.1.all, wr_s, in_nI, clN, ti_z, ti_l, true_and, and_true, kI, zI, rI, kL, zL, rL, kR, zR, nnI, nnL, nnR, iL, iR, lI, lR, exi, exl, exv, eq_self, nI_add, nI_mul, nI_sub, nI_ltI, nI_leI, nI_eq, q0, q1, q2, q3, q4, q5, q6, q10, q100, br_Tr, br_Fa, iI_s, iI_n, bI_q0, bI_q1, or_true, true_or, not_true_eq_false, not_false_eq_true, nI_l, ge64, Nat.lt_irrefl, Nat.add_sub_cancel, Nat.not_lt_zero, lN_0, lN_1e4, lN_1e6, lN_1e3, lN_add, lN_mul, lN_ltI, lN_leI, lN_eqI, lN_i, lcE, lcLe, lcLt, lN_div, q7, q12, q20, q99, q200, q999, q1e4, if_true, if_false, Nat.le_refl]
  cases h1 : inN x (cn st 5)
  · simp only [h1, Bool.and_false, Bool.false_and, Bool.and_true, Bool.true_and, cond_false, cond_true] at q
    exact ax_brt rfl (d68 hx (by decide) q)
  simp only [h1, Bool.and_false, Bool.false_and, Bool.and_true, Bool.true_and, cond_false, cond_true] at q
  refine ax_brf (by decide) ?_
  refine d62 hx.s0 ?_
  try simp (disch := omega) only [hx.1.all, wr_s, in_nI, clN, ti_z, ti_l, true_and, and_true, kI, zI, rI, kL, zL, rL, kR, zR, nnI, nnL, nnR, iL, iR, lI, lR, exi, exl, exv, eq_self, nI_add, nI_mul, nI_sub, nI_ltI, nI_leI, nI_eq, q0, q1, q2, q3, q4, q5, q6, q10, q100, br_Tr, br_Fa, iI_s, iI_n, bI_q0, bI_q1, or_true, true_or, not_true_eq_false, not_false_eq_true, nI_l, ge64, Nat.lt_irrefl, Nat.add_sub_cancel, Nat.not_lt_zero, lN_0, lN_1e4, lN_1e6, lN_1e3, lN_add, lN_mul, lN_ltI, lN_leI, lN_eqI, lN_i, lcE, lcLe, lcLt, lN_div, q7, q12, q20, q99, q200, q999, q1e4, if_true, if_false, Nat.le_refl]
  cases h2 : inN y (cn st 0)
  · simp only [h2, Bool.and_false, Bool.false_and, Bool.and_true, Bool.true_and, cond_false, cond_true] at q
    exact ax_brt rfl (d68 hx (by decide) q)
  simp only [h2, Bool.and_false, Bool.false_and, Bool.and_true, Bool.true_and, cond_false, cond_true] at q
  refine ax_brf (by decide) ?_
  refine d57 (n := 1) (by omega) ?_
  try simp (disch := omega) only [hx.1.all, wr_s, in_nI, clN, ti_z, ti_l, true_and, and_true, kI, zI, rI, kL, zL, rL, kR, zR, nnI, nnL, nnR, iL, iR, lI, lR, exi, exl, exv, eq_self, nI_add, nI_mul, nI_sub, nI_ltI, nI_leI, nI_eq, q0, q1, q2, q3, q4, q5, q6, q10, q100, br_Tr, br_Fa, iI_s, iI_n, bI_q0, bI_q1, or_true, true_or, not_true_eq_false, not_false_eq_true, nI_l, ge64, Nat.lt_irrefl, Nat.add_sub_cancel, Nat.not_lt_zero, lN_0, lN_1e4, lN_1e6, lN_1e3, lN_add, lN_mul, lN_ltI, lN_leI, lN_eqI, lN_i, lcE, lcLe, lcLt, lN_div, q7, q12, q20, q99, q200, q999, q1e4, if_true, if_false, Nat.le_refl]
  cases h3 : inN z 2
  · simp only [h3, Bool.and_false, Bool.false_and, Bool.and_true, Bool.true_and, cond_false, cond_true] at q
    exact ax_brt rfl (d68 hx (by decide) q)
  simp only [h3, Bool.and_false, Bool.false_and, Bool.and_true, Bool.true_and, cond_false, cond_true] at q
  refine ax_brf (by decide) ?_
  obtain ⟨h, hh1, rfl⟩ := inN_t (by omega) h1
  obtain ⟨m, hh2, rfl⟩ := inN_t (by omega) h2
  obtain ⟨N, hM0, -, -, he⟩ := hx.mb hh1
  have hM := hM0.s0 (v := nI 0)
  have hbd := hM0.bd
  simp only [cl_nI (show h < 2 ^ 31 by omega), cl_nI (show m < 2 ^ 31 by omega)] at q
  have ha := hM.1.1.1
  refine ax_brc (fun e => ?_) (fun e => ?_)
  · rw [if_neg (by rw [e]; decide +kernel)] at q
    have c1 := cst_in ha (h := h) (b := m) (p := m) (by omega)
    have c2 := cst_in ha (h := h) (b := m) (p := 0) (by omega)
    refine d107 hM (by omega) (by omega) (by omega) (fun g t hg e => lst_tr (buy_in hM.1.1.1 (by omega) (show g < 4 by have := hM.bd; omega) m |>.1 t e).2.2) ?_
    try simp (disch := omega) only [hM0.1.1.2.1.all, hM0.1.1.2.2.1, hM0.1.1.2.2.2.1.all, hM0.1.1.2.2.2.all, hM0.1.2, hM0.2, wr_s, in_nI, clN, ti_z, ti_l, true_and, and_true, kI, zI, rI, kL, zL, rL, kR, zR, nnI, nnL, nnR, iL, iR, lI, lR, exi, exl, exv, eq_self, nI_add, nI_mul, nI_sub, nI_ltI, nI_leI, nI_eq, q0, q1, q2, q3, q4, q5, q6, q10, q100, br_Tr, br_Fa, iI_s, iI_n, bI_q0, bI_q1, or_true, true_or, not_true_eq_false, not_false_eq_true, nI_l, ge64, Nat.lt_irrefl, Nat.add_sub_cancel, Nat.not_lt_zero, lN_0, lN_1e4, lN_1e6, lN_1e3, lN_add, lN_mul, lN_ltI, lN_leI, lN_eqI, lN_i, lcE, lcLe, lcLt, lN_div, q7, q12, q20, q99, q200, q999, q1e4, if_true, if_false, Nat.le_refl]
    refine d107 hM (by omega) (by omega) (by omega) (fun g t hg e => rfl) ?_
    try simp (disch := omega) only [hM0.1.1.2.1.all, hM0.1.1.2.2.1, hM0.1.1.2.2.2.1.all, hM0.1.1.2.2.2.all, hM0.1.2, hM0.2, wr_s, in_nI, clN, ti_z, ti_l, true_and, and_true, kI, zI, rI, kL, zL, rL, kR, zR, nnI, nnL, nnR, iL, iR, lI, lR, exi, exl, exv, eq_self, nI_add, nI_mul, nI_sub, nI_ltI, nI_leI, nI_eq, q0, q1, q2, q3, q4, q5, q6, q10, q100, br_Tr, br_Fa, iI_s, iI_n, bI_q0, bI_q1, or_true, true_or, not_true_eq_false, not_false_eq_true, nI_l, ge64, Nat.lt_irrefl, Nat.add_sub_cancel, Nat.not_lt_zero, lN_0, lN_1e4, lN_1e6, lN_1e3, lN_add, lN_mul, lN_ltI, lN_leI, lN_eqI, lN_i, lcE, lcLe, lcLt, lN_div, q7, q12, q20, q99, q200, q999, q1e4, if_true, if_false, Nat.le_refl]
    refine d69 (by omega) (by omega) ?_
    try simp (disch := omega) only [hM0.1.1.2.1.all, hM0.1.1.2.2.1, hM0.1.1.2.2.2.1.all, hM0.1.1.2.2.2.all, hM0.1.2, hM0.2, wr_s, in_nI, clN, ti_z, ti_l, true_and, and_true, kI, zI, rI, kL, zL, rL, kR, zR, nnI, nnL, nnR, iL, iR, lI, lR, exi, exl, exv, eq_self, nI_add, nI_mul, nI_sub, nI_ltI, nI_leI, nI_eq, q0, q1, q2, q3, q4, q5, q6, q10, q100, br_Tr, br_Fa, iI_s, iI_n, bI_q0, bI_q1, or_true, true_or, not_true_eq_false, not_false_eq_true, nI_l, ge64, Nat.lt_irrefl, Nat.add_sub_cancel, Nat.not_lt_zero, lN_0, lN_1e4, lN_1e6, lN_1e3, lN_add, lN_mul, lN_ltI, lN_leI, lN_eqI, lN_i, lcE, lcLe, lcLt, lN_div, q7, q12, q20, q99, q200, q999, q1e4, if_true, if_false, Nat.le_refl]
    exact d51 hx q
  · have e0 : z = nI 0 := by
      obtain ⟨j, hj, rfl⟩ := inN_t (by omega) h3
      rcases (show j = 0 ∨ j = 1 by omega) with rfl | rfl
      · rfl
      · exact absurd rfl e
    rw [if_pos e0] at q
    have c1 := cst_in ha (h := h) (b := 0) (p := m) (by omega)
    have c2 := cst_in ha (h := h) (b := 0) (p := 0) (by omega)
    refine up_to (P := fun g => (ax_Rw l G ax_h150 (ax_E G ax_h150 (fun x μ' => ∃ v : Int32, x = some (ax_i v) ∧ K v μ')) 71 [(0, ax_r (some 332)), (1, ax_i (nI h)), (2, ax_i (nI m)), (4, ax_i (nI (sumN (cst1 (ldo st) h 0 m) g))), (5, ax_i (nI g))] [] 0 0 (sI μ 332 0 (nI 0)))) (nGr (ldo st)) ?_ (fun g hg ih => ?_) 0 (Nat.zero_le _)
    · refine sg150_71 l G _ 332 _ _ _ _ _ ?_
      try simp (disch := omega) only [hM0.1.1.2.1.all, hM0.1.1.2.2.1, hM0.1.1.2.2.2.1.all, hM0.1.1.2.2.2.all, hM0.1.2, hM0.2, wr_s, in_nI, clN, ti_z, ti_l, true_and, and_true, kI, zI, rI, kL, zL, rL, kR, zR, nnI, nnL, nnR, iL, iR, lI, lR, exi, exl, exv, eq_self, nI_add, nI_mul, nI_sub, nI_ltI, nI_leI, nI_eq, q0, q1, q2, q3, q4, q5, q6, q10, q100, br_Tr, br_Fa, iI_s, iI_n, bI_q0, bI_q1, or_true, true_or, not_true_eq_false, not_false_eq_true, nI_l, ge64, Nat.lt_irrefl, Nat.add_sub_cancel, Nat.not_lt_zero, lN_0, lN_1e4, lN_1e6, lN_1e3, lN_add, lN_mul, lN_ltI, lN_leI, lN_eqI, lN_i, lcE, lcLe, lcLt, lN_div, q7, q12, q20, q99, q200, q999, q1e4, if_true, if_false, Nat.le_refl]
      refine d107 hM (by omega) (by omega) (by omega) (fun g t hg e => rfl) ?_
      rw [show sumN (cst1 (ldo st) h 0 m) (nGr (ldo st)) = cst (ldo st) h 0 m from rfl]
      try simp (disch := omega) only [hM0.1.1.2.1.all, hM0.1.1.2.2.1, hM0.1.1.2.2.2.1.all, hM0.1.1.2.2.2.all, hM0.1.2, hM0.2, wr_s, in_nI, clN, ti_z, ti_l, true_and, and_true, kI, zI, rI, kL, zL, rL, kR, zR, nnI, nnL, nnR, iL, iR, lI, lR, exi, exl, exv, eq_self, nI_add, nI_mul, nI_sub, nI_ltI, nI_leI, nI_eq, q0, q1, q2, q3, q4, q5, q6, q10, q100, br_Tr, br_Fa, iI_s, iI_n, bI_q0, bI_q1, or_true, true_or, not_true_eq_false, not_false_eq_true, nI_l, ge64, Nat.lt_irrefl, Nat.add_sub_cancel, Nat.not_lt_zero, lN_0, lN_1e4, lN_1e6, lN_1e3, lN_add, lN_mul, lN_ltI, lN_leI, lN_eqI, lN_i, lcE, lcLe, lcLt, lN_div, q7, q12, q20, q99, q200, q999, q1e4, if_true, if_false, Nat.le_refl]
      refine d69 (by omega) (by omega) ?_
      try simp (disch := omega) only [hM0.1.1.2.1.all, hM0.1.1.2.2.1, hM0.1.1.2.2.2.1.all, hM0.1.1.2.2.2.all, hM0.1.2, hM0.2, wr_s, in_nI, clN, ti_z, ti_l, true_and, and_true, kI, zI, rI, kL, zL, rL, kR, zR, nnI, nnL, nnR, iL, iR, lI, lR, exi, exl, exv, eq_self, nI_add, nI_mul, nI_sub, nI_ltI, nI_leI, nI_eq, q0, q1, q2, q3, q4, q5, q6, q10, q100, br_Tr, br_Fa, iI_s, iI_n, bI_q0, bI_q1, or_true, true_or, not_true_eq_false, not_false_eq_true, nI_l, ge64, Nat.lt_irrefl, Nat.add_sub_cancel, Nat.not_lt_zero, lN_0, lN_1e4, lN_1e6, lN_1e3, lN_add, lN_mul, lN_ltI, lN_leI, lN_eqI, lN_i, lcE, lcLe, lcLt, lN_div, q7, q12, q20, q99, q200, q999, q1e4, if_true, if_false, Nat.le_refl]
      exact d51 hx q
    · have hbi := (buy_in ha (show h < nHo (ldo st) by omega) (show g < 4 by omega) 0).1
      have hb9 := (buy_in ha (show h < nHo (ldo st) by omega) (show g < 4 by omega) 0).2.1
      rw [sumN_s] at ih
      refine sg150_71 l G _ 332 _ _ _ _ _ ?_
      try simp (disch := omega) only [hM0.1.1.2.1.all, hM0.1.1.2.2.1, hM0.1.1.2.2.2.1.all, hM0.1.1.2.2.2.all, hM0.1.2, hM0.2, hg, wr_s, in_nI, clN, ti_z, ti_l, true_and, and_true, kI, zI, rI, kL, zL, rL, kR, zR, nnI, nnL, nnR, iL, iR, lI, lR, exi, exl, exv, eq_self, nI_add, nI_mul, nI_sub, nI_ltI, nI_leI, nI_eq, q0, q1, q2, q3, q4, q5, q6, q10, q100, br_Tr, br_Fa, iI_s, iI_n, bI_q0, bI_q1, or_true, true_or, not_true_eq_false, not_false_eq_true, nI_l, ge64, Nat.lt_irrefl, Nat.add_sub_cancel, Nat.not_lt_zero, lN_0, lN_1e4, lN_1e6, lN_1e3, lN_add, lN_mul, lN_ltI, lN_leI, lN_eqI, lN_i, lcE, lcLe, lcLt, lN_div, q7, q12, q20, q99, q200, q999, q1e4, if_true, if_false, Nat.le_refl]
      refine d65 hM.1.1 (by omega) hg ?_
      try simp (disch := omega) only [hM0.1.1.2.1.all, hM0.1.1.2.2.1, hM0.1.1.2.2.2.1.all, hM0.1.1.2.2.2.all, hM0.1.2, hM0.2, wr_s, in_nI, clN, ti_z, ti_l, true_and, and_true, kI, zI, rI, kL, zL, rL, kR, zR, nnI, nnL, nnR, iL, iR, lI, lR, exi, exl, exv, eq_self, nI_add, nI_mul, nI_sub, nI_ltI, nI_leI, nI_eq, q0, q1, q2, q3, q4, q5, q6, q10, q100, br_Tr, br_Fa, iI_s, iI_n, bI_q0, bI_q1, or_true, true_or, not_true_eq_false, not_false_eq_true, nI_l, ge64, Nat.lt_irrefl, Nat.add_sub_cancel, Nat.not_lt_zero, lN_0, lN_1e4, lN_1e6, lN_1e3, lN_add, lN_mul, lN_ltI, lN_leI, lN_eqI, lN_i, lcE, lcLe, lcLt, lN_div, q7, q12, q20, q99, q200, q999, q1e4, if_true, if_false, Nat.le_refl]
      refine ax_brc (fun h1 => ?_) (fun h1 => ?_)
      · have h2 : hW (ldo st) h g = 0 := by have := of_decide_eq_false h1; omega
        rw [show cst1 (ldo st) h 0 m g = 0 by unfold cst1; rw [buy_w0 h2]] at ih
        exact ih
      · have h2 : 0 < hW (ldo st) h g := Nat.pos_of_ne_zero (by simpa using h1)
        refine d72 ?_
        try simp (disch := omega) only [hM0.1.1.2.1.all, hM0.1.1.2.2.1, hM0.1.1.2.2.2.1.all, hM0.1.1.2.2.2.all, hM0.1.2, hM0.2, wr_s, in_nI, clN, ti_z, ti_l, true_and, and_true, kI, zI, rI, kL, zL, rL, kR, zR, nnI, nnL, nnR, iL, iR, lI, lR, exi, exl, exv, eq_self, nI_add, nI_mul, nI_sub, nI_ltI, nI_leI, nI_eq, q0, q1, q2, q3, q4, q5, q6, q10, q100, br_Tr, br_Fa, iI_s, iI_n, bI_q0, bI_q1, or_true, true_or, not_true_eq_false, not_false_eq_true, nI_l, ge64, Nat.lt_irrefl, Nat.add_sub_cancel, Nat.not_lt_zero, lN_0, lN_1e4, lN_1e6, lN_1e3, lN_add, lN_mul, lN_ltI, lN_leI, lN_eqI, lN_i, lcE, lcLe, lcLt, lN_div, q7, q12, q20, q99, q200, q999, q1e4, if_true, if_false, Nat.le_refl]
        cases hbj : (buy (ldo st) h g 0).1 with
        | none =>
          rw [show cst1 (ldo st) h 0 m g = 0 by unfold cst1; rw [hbj]] at ih
          exact ax_brt (by decide +kernel) ih
        | some t =>
          have hbt := hbi t hbj
          have hl := lst_le (ldo st) t m
          rw [show cst1 (ldo st) h 0 m g = (buy (ldo st) h g 0).2 * Pr (ldo st) t (lst (ldo st) t m) by unfold cst1; rw [hbj]] at ih
          refine ax_brf (fun e => neg2_ne (show t < 2 ^ 31 by omega) e.symm) ?_
          refine d72 ?_
          try simp (disch := omega) only [hM0.1.1.2.1.all, hM0.1.1.2.2.1, hM0.1.1.2.2.2.1.all, hM0.1.1.2.2.2.all, hM0.1.2, hM0.2, enc_some, wr_s, in_nI, clN, ti_z, ti_l, true_and, and_true, kI, zI, rI, kL, zL, rL, kR, zR, nnI, nnL, nnR, iL, iR, lI, lR, exi, exl, exv, eq_self, nI_add, nI_mul, nI_sub, nI_ltI, nI_leI, nI_eq, q0, q1, q2, q3, q4, q5, q6, q10, q100, br_Tr, br_Fa, iI_s, iI_n, bI_q0, bI_q1, or_true, true_or, not_true_eq_false, not_false_eq_true, nI_l, ge64, Nat.lt_irrefl, Nat.add_sub_cancel, Nat.not_lt_zero, lN_0, lN_1e4, lN_1e6, lN_1e3, lN_add, lN_mul, lN_ltI, lN_leI, lN_eqI, lN_i, lcE, lcLe, lcLt, lN_div, q7, q12, q20, q99, q200, q999, q1e4, if_true, if_false, Nat.le_refl]
          refine d113 hM.1 hbt.1 (by omega) ?_
          refine d50 ?_
          try simp (disch := omega) only [hM0.1.1.2.1.all, hM0.1.1.2.2.1, hM0.1.1.2.2.2.1.all, hM0.1.1.2.2.2.all, hM0.1.2, hM0.2, wr_s, in_nI, clN, ti_z, ti_l, true_and, and_true, kI, zI, rI, kL, zL, rL, kR, zR, nnI, nnL, nnR, iL, iR, lI, lR, exi, exl, exv, eq_self, nI_add, nI_mul, nI_sub, nI_ltI, nI_leI, nI_eq, q0, q1, q2, q3, q4, q5, q6, q10, q100, br_Tr, br_Fa, iI_s, iI_n, bI_q0, bI_q1, or_true, true_or, not_true_eq_false, not_false_eq_true, nI_l, ge64, Nat.lt_irrefl, Nat.add_sub_cancel, Nat.not_lt_zero, lN_0, lN_1e4, lN_1e6, lN_1e3, lN_add, lN_mul, lN_ltI, lN_leI, lN_eqI, lN_i, lcE, lcLe, lcLt, lN_div, q7, q12, q20, q99, q200, q999, q1e4, if_true, if_false, Nat.le_refl]
          exact ih

theorem m159 {x y z : Int32} {K : Int32 → ax_M → Prop} (hx : Mx μ st) (q : ∀ μ', OutM μ μ' → Mx μ' (aWorths st x y z).2 → K (aWorths st x y z).1 μ') : ax_CI l G 159 [ax_r (some 332), ax_i x, ax_i y, ax_i z] μ K := by
  have hb := hx.bd
  unfold aWorths at q
  refine ax_Ct.of (by decide) (Nat.le_of_ble_eq_true rfl) (sg159_0 l G _ 332 _ _ _ _ ?_)
  try simp (disch := omega) only [hx.1.all, wr_s, in_nI, clN, ti_z, ti_l, true_and, and_true, kI, zI, rI, kL, zL, rL, kR, zR, nnI, nnL, nnR, iL, iR, lI, lR, exi, exl, exv, eq_self, nI_add, nI_mul, nI_sub, nI_ltI, nI_leI, nI_eq, q0, q1, q2, q3, q4, q5, q6, q10, q100, br_Tr, br_Fa, iI_s, iI_n, bI_q0, bI_q1, or_true, true_or, not_true_eq_false, not_false_eq_true, nI_l, ge64, Nat.lt_irrefl, Nat.add_sub_cancel, Nat.not_lt_zero, lN_0, lN_1e4, lN_1e6, lN_1e3, lN_add, lN_mul, lN_ltI, lN_leI, lN_eqI, lN_i, lcE, lcLe, lcLt, lN_div, q7, q12, q20, q99, q200, q999, q1e4, if_true, if_false, Nat.le_refl]
  refine d59 hx.s0 ?_
  try simp (disch := omega) only [hx.1.all, wr_s, in_nI, clN, ti_z, ti_l, true_and, and_true, kI, zI, rI, kL, zL, rL, kR, zR, nnI, nnL, nnR, iL, iR, lI, lR, exi, exl, exv, eq_self, nI_add, nI_mul, nI_sub, nI_ltI, nI_leI, nI_eq, q0, q1, q2, q3, q4, q5, q6, q10, q100, br_Tr, br_Fa, iI_s, iI_n, bI_q0, bI_q1, or_true, true_or, not_true_eq_false, not_false_eq_true, nI_l, ge64, Nat.lt_irrefl, Nat.add_sub_cancel, Nat.not_lt_zero, lN_0, lN_1e4, lN_1e6, lN_1e3, lN_add, lN_mul, lN_ltI, lN_leI, lN_eqI, lN_i, lcE, lcLe, lcLt, lN_div, q7, q12, q20, q99, q200, q999, q1e4, if_true, if_false, Nat.le_refl]
  cases h1 : inN x (cn st 1)
  · simp only [h1, Bool.and_false, Bool.false_and, Bool.and_true, Bool.true_and, cond_false, cond_true] at q
    exact ax_brt rfl (d68 hx (by decide) q)
  simp only [h1, Bool.and_false, Bool.false_and, Bool.and_true, Bool.true_and, cond_false, cond_true] at q
  refine ax_brf (by decide) ?_
  refine d62 hx.s0 ?_
  try simp (disch := omega) only [hx.1.all, wr_s, in_nI, clN, ti_z, ti_l, true_and, and_true, kI, zI, rI, kL, zL, rL, kR, zR, nnI, nnL, nnR, iL, iR, lI, lR, exi, exl, exv, eq_self, nI_add, nI_mul, nI_sub, nI_ltI, nI_leI, nI_eq, q0, q1, q2, q3, q4, q5, q6, q10, q100, br_Tr, br_Fa, iI_s, iI_n, bI_q0, bI_q1, or_true, true_or, not_true_eq_false, not_false_eq_true, nI_l, ge64, Nat.lt_irrefl, Nat.add_sub_cancel, Nat.not_lt_zero, lN_0, lN_1e4, lN_1e6, lN_1e3, lN_add, lN_mul, lN_ltI, lN_leI, lN_eqI, lN_i, lcE, lcLe, lcLt, lN_div, q7, q12, q20, q99, q200, q999, q1e4, if_true, if_false, Nat.le_refl]
  cases h2 : inN y (cn st 0)
  · simp only [h2, Bool.and_false, Bool.false_and, Bool.and_true, Bool.true_and, cond_false, cond_true] at q
    exact ax_brt rfl (d68 hx (by decide) q)
  simp only [h2, Bool.and_false, Bool.false_and, Bool.and_true, Bool.true_and, cond_false, cond_true] at q
  refine ax_brf (by decide) ?_
  refine d57 (n := 999) (by omega) ?_
  try simp (disch := omega) only [hx.1.all, wr_s, in_nI, clN, ti_z, ti_l, true_and, and_true, kI, zI, rI, kL, zL, rL, kR, zR, nnI, nnL, nnR, iL, iR, lI, lR, exi, exl, exv, eq_self, nI_add, nI_mul, nI_sub, nI_ltI, nI_leI, nI_eq, q0, q1, q2, q3, q4, q5, q6, q10, q100, br_Tr, br_Fa, iI_s, iI_n, bI_q0, bI_q1, or_true, true_or, not_true_eq_false, not_false_eq_true, nI_l, ge64, Nat.lt_irrefl, Nat.add_sub_cancel, Nat.not_lt_zero, lN_0, lN_1e4, lN_1e6, lN_1e3, lN_add, lN_mul, lN_ltI, lN_leI, lN_eqI, lN_i, lcE, lcLe, lcLt, lN_div, q7, q12, q20, q99, q200, q999, q1e4, if_true, if_false, Nat.le_refl]
  cases h3 : inN z 1000
  · simp only [h3, Bool.and_false, Bool.false_and, Bool.and_true, Bool.true_and, cond_false, cond_true] at q
    exact ax_brt rfl (d68 hx (by decide) q)
  simp only [h3, Bool.and_false, Bool.false_and, Bool.and_true, Bool.true_and, cond_false, cond_true] at q
  refine ax_brf (by decide) ?_
  obtain ⟨g, hh1, rfl⟩ := inN_t (by omega) h1
  obtain ⟨m, hh2, rfl⟩ := inN_t (by omega) h2
  obtain ⟨o, hh3, rfl⟩ := inN_t (by omega) h3
  obtain ⟨N, hM0, -, -, he⟩ := hx.mb hh1
  have hM := hM0.s0 (v := nI 0)
  have hbd := hM0.bd
  simp only [cl_nI (show g < 2 ^ 31 by omega), cl_nI (show m < 2 ^ 31 by omega), cl_nI (show o < 2 ^ 31 by omega)] at q
  refine up_to (P := fun x => (ax_Rw l G ax_h159 (ax_E G ax_h159 (fun x μ' => ∃ v : Int32, x = some (ax_i v) ∧ K v μ')) 50 [(0, ax_r (some 332)), (1, ax_i (nI g)), (2, ax_i (nI m)), (3, ax_i (nI o)), (4, ax_i (nI (sumN (fun x => sumN (fun y => (isW (ldo st) g m o x y).toNat) 21) x))), (5, ax_i (nI x))] [] 0 0 (sI μ 332 0 (nI 0)))) 21 ?_ (fun x hx1 ih => ?_) 0 (Nat.zero_le _)
  · refine sg159_50 l G _ 332 _ _ _ _ _ _ ?_
    try simp (disch := omega) only [hM0.1.1.2.1.all, hM0.1.1.2.2.1, hM0.1.1.2.2.2.1.all, hM0.1.1.2.2.2.all, hM0.1.2, hM0.2, show ¬ (21 ≤ 20) by omega, wr_s, in_nI, clN, ti_z, ti_l, true_and, and_true, kI, zI, rI, kL, zL, rL, kR, zR, nnI, nnL, nnR, iL, iR, lI, lR, exi, exl, exv, eq_self, nI_add, nI_mul, nI_sub, nI_ltI, nI_leI, nI_eq, q0, q1, q2, q3, q4, q5, q6, q10, q100, br_Tr, br_Fa, iI_s, iI_n, bI_q0, bI_q1, or_true, true_or, not_true_eq_false, not_false_eq_true, nI_l, ge64, Nat.lt_irrefl, Nat.add_sub_cancel, Nat.not_lt_zero, lN_0, lN_1e4, lN_1e6, lN_1e3, lN_add, lN_mul, lN_ltI, lN_leI, lN_eqI, lN_i, lcE, lcLe, lcLt, lN_div, q7, q12, q20, q99, q200, q999, q1e4, if_true, if_false, Nat.le_refl]
    exact d51 hx q
  · refine sg159_50 l G _ 332 _ _ _ _ _ _ ?_
    try simp (disch := omega) only [show x ≤ 20 by omega, wr_s, in_nI, clN, ti_z, ti_l, true_and, and_true, kI, zI, rI, kL, zL, rL, kR, zR, nnI, nnL, nnR, iL, iR, lI, lR, exi, exl, exv, eq_self, nI_add, nI_mul, nI_sub, nI_ltI, nI_leI, nI_eq, q0, q1, q2, q3, q4, q5, q6, q10, q100, br_Tr, br_Fa, iI_s, iI_n, bI_q0, bI_q1, or_true, true_or, not_true_eq_false, not_false_eq_true, nI_l, ge64, Nat.lt_irrefl, Nat.add_sub_cancel, Nat.not_lt_zero, lN_0, lN_1e4, lN_1e6, lN_1e3, lN_add, lN_mul, lN_ltI, lN_leI, lN_eqI, lN_i, lcE, lcLe, lcLt, lN_div, q7, q12, q20, q99, q200, q999, q1e4, if_true, if_false, Nat.le_refl]
    refine up_to (P := fun y => (ax_Rw l G ax_h159 (ax_E G ax_h159 (fun x μ' => ∃ v : Int32, x = some (ax_i v) ∧ K v μ')) 60 [(0, ax_r (some 332)), (1, ax_i (nI g)), (2, ax_i (nI m)), (3, ax_i (nI o)), (4, ax_i (nI (sumN (fun x => sumN (fun y => (isW (ldo st) g m o x y).toNat) 21) x + sumN (fun y => (isW (ldo st) g m o x y).toNat) y))), (5, ax_i (nI x)), (6, ax_i (nI y))] [] 0 0 (sI μ 332 0 (nI 0)))) 21 ?_ (fun y hy ih' => ?_) 0 (Nat.zero_le _)
    · refine sg159_60 l G _ 332 _ _ _ _ _ _ _ ?_
      try simp (disch := omega) only [show ¬ (21 ≤ 20) by omega, wr_s, in_nI, clN, ti_z, ti_l, true_and, and_true, kI, zI, rI, kL, zL, rL, kR, zR, nnI, nnL, nnR, iL, iR, lI, lR, exi, exl, exv, eq_self, nI_add, nI_mul, nI_sub, nI_ltI, nI_leI, nI_eq, q0, q1, q2, q3, q4, q5, q6, q10, q100, br_Tr, br_Fa, iI_s, iI_n, bI_q0, bI_q1, or_true, true_or, not_true_eq_false, not_false_eq_true, nI_l, ge64, Nat.lt_irrefl, Nat.add_sub_cancel, Nat.not_lt_zero, lN_0, lN_1e4, lN_1e6, lN_1e3, lN_add, lN_mul, lN_ltI, lN_leI, lN_eqI, lN_i, lcE, lcLe, lcLt, lN_div, q7, q12, q20, q99, q200, q999, q1e4, if_true, if_false, Nat.le_refl]
      exact ih
    · refine sg159_60 l G _ 332 _ _ _ _ _ _ _ ?_
      try simp (disch := omega) only [show y ≤ 20 by omega, hM0.1.1.2.1.all, hM0.1.1.2.2.1, hM0.1.1.2.2.2.1.all, hM0.1.1.2.2.2.all, hM0.1.2, hM0.2, wr_s, in_nI, clN, ti_z, ti_l, true_and, and_true, kI, zI, rI, kL, zL, rL, kR, zR, nnI, nnL, nnR, iL, iR, lI, lR, exi, exl, exv, eq_self, nI_add, nI_mul, nI_sub, nI_ltI, nI_leI, nI_eq, q0, q1, q2, q3, q4, q5, q6, q10, q100, br_Tr, br_Fa, iI_s, iI_n, bI_q0, bI_q1, or_true, true_or, not_true_eq_false, not_false_eq_true, nI_l, ge64, Nat.lt_irrefl, Nat.add_sub_cancel, Nat.not_lt_zero, lN_0, lN_1e4, lN_1e6, lN_1e3, lN_add, lN_mul, lN_ltI, lN_leI, lN_eqI, lN_i, lcE, lcLe, lcLt, lN_div, q7, q12, q20, q99, q200, q999, q1e4, if_true, if_false, Nat.le_refl]
      refine d115 hM.1 (by omega) (by omega) (by omega) (by omega) (by omega) ?_
      try simp (disch := omega) only [Nat.add_zero, wr_s, in_nI, clN, ti_z, ti_l, true_and, and_true, kI, zI, rI, kL, zL, rL, kR, zR, nnI, nnL, nnR, iL, iR, lI, lR, exi, exl, exv, eq_self, nI_add, nI_mul, nI_sub, nI_ltI, nI_leI, nI_eq, q0, q1, q2, q3, q4, q5, q6, q10, q100, br_Tr, br_Fa, iI_s, iI_n, bI_q0, bI_q1, or_true, true_or, not_true_eq_false, not_false_eq_true, nI_l, ge64, Nat.lt_irrefl, Nat.add_sub_cancel, Nat.not_lt_zero, lN_0, lN_1e4, lN_1e6, lN_1e3, lN_add, lN_mul, lN_ltI, lN_leI, lN_eqI, lN_i, lcE, lcLe, lcLt, lN_div, q7, q12, q20, q99, q200, q999, q1e4, if_true, if_false, Nat.le_refl]
      rw [sumN_s, ← Nat.add_assoc] at ih'
      refine ax_brc (fun h => ?_) (fun h => ?_)
      · rw [h] at ih'
        exact ih'
      · rw [show isW (ldo st) g m o x y = true by simpa using h] at ih'
        exact ih'

theorem m157 {x y z w : Int32} {mo : Bool} {K : Int32 → ax_M → Prop} (hx : Mx μ st) (q : ∀ μ', OutM μ μ' → Mx μ' (aSpan st x y z w mo).2 → K (aSpan st x y z w mo).1 μ') : ax_CI l G 157 [ax_r (some 332), ax_i x, ax_i y, ax_i z, ax_i w, ax_i (bI mo)] μ K := by
  have hb := hx.bd
  unfold aSpan at q
  rw [← inN2] at q
  refine ax_Ct.of (by decide) (Nat.le_of_ble_eq_true rfl) (sg157_0 l G _ 332 _ _ _ _ _ _ ?_)
  try simp (disch := omega) only [hx.1.all, wr_s, in_nI, clN, ti_z, ti_l, true_and, and_true, kI, zI, rI, kL, zL, rL, kR, zR, nnI, nnL, nnR, iL, iR, lI, lR, exi, exl, exv, eq_self, nI_add, nI_mul, nI_sub, nI_ltI, nI_leI, nI_eq, q0, q1, q2, q3, q4, q5, q6, q10, q100, br_Tr, br_Fa, iI_s, iI_n, bI_q0, bI_q1, or_true, true_or, not_true_eq_false, not_false_eq_true, nI_l, ge64, Nat.lt_irrefl, Nat.add_sub_cancel, Nat.not_lt_zero, lN_0, lN_1e4, lN_1e6, lN_1e3, lN_add, lN_mul, lN_ltI, lN_leI, lN_eqI, lN_i, lcE, lcLe, lcLt, lN_div, q7, q12, q20, q99, q200, q999, q1e4, if_true, if_false, Nat.le_refl]
  refine d59 hx.s0 ?_
  try simp (disch := omega) only [hx.1.all, wr_s, in_nI, clN, ti_z, ti_l, true_and, and_true, kI, zI, rI, kL, zL, rL, kR, zR, nnI, nnL, nnR, iL, iR, lI, lR, exi, exl, exv, eq_self, nI_add, nI_mul, nI_sub, nI_ltI, nI_leI, nI_eq, q0, q1, q2, q3, q4, q5, q6, q10, q100, br_Tr, br_Fa, iI_s, iI_n, bI_q0, bI_q1, or_true, true_or, not_true_eq_false, not_false_eq_true, nI_l, ge64, Nat.lt_irrefl, Nat.add_sub_cancel, Nat.not_lt_zero, lN_0, lN_1e4, lN_1e6, lN_1e3, lN_add, lN_mul, lN_ltI, lN_leI, lN_eqI, lN_i, lcE, lcLe, lcLt, lN_div, q7, q12, q20, q99, q200, q999, q1e4, if_true, if_false, Nat.le_refl]
  cases h1 : inN x (cn st 1)
  · simp only [h1, Bool.and_false, Bool.false_and, Bool.and_true, Bool.true_and, cond_false, cond_true] at q
    exact ax_brt rfl (d68 hx (by decide) q)
  simp only [h1, Bool.and_false, Bool.false_and, Bool.and_true, Bool.true_and, cond_false, cond_true] at q
  refine ax_brf (by decide) ?_
  refine d62 hx.s0 ?_
  try simp (disch := omega) only [hx.1.all, wr_s, in_nI, clN, ti_z, ti_l, true_and, and_true, kI, zI, rI, kL, zL, rL, kR, zR, nnI, nnL, nnR, iL, iR, lI, lR, exi, exl, exv, eq_self, nI_add, nI_mul, nI_sub, nI_ltI, nI_leI, nI_eq, q0, q1, q2, q3, q4, q5, q6, q10, q100, br_Tr, br_Fa, iI_s, iI_n, bI_q0, bI_q1, or_true, true_or, not_true_eq_false, not_false_eq_true, nI_l, ge64, Nat.lt_irrefl, Nat.add_sub_cancel, Nat.not_lt_zero, lN_0, lN_1e4, lN_1e6, lN_1e3, lN_add, lN_mul, lN_ltI, lN_leI, lN_eqI, lN_i, lcE, lcLe, lcLt, lN_div, q7, q12, q20, q99, q200, q999, q1e4, if_true, if_false, Nat.le_refl]
  cases h2 : inN y (cn st 0)
  · simp only [h2, Bool.and_false, Bool.false_and, Bool.and_true, Bool.true_and, cond_false, cond_true] at q
    exact ax_brt rfl (d68 hx (by decide) q)
  simp only [h2, Bool.and_false, Bool.false_and, Bool.and_true, Bool.true_and, cond_false, cond_true] at q
  refine ax_brf (by decide) ?_
  refine d57 (n := 1) (by omega) ?_
  try simp (disch := omega) only [hx.1.all, wr_s, in_nI, clN, ti_z, ti_l, true_and, and_true, kI, zI, rI, kL, zL, rL, kR, zR, nnI, nnL, nnR, iL, iR, lI, lR, exi, exl, exv, eq_self, nI_add, nI_mul, nI_sub, nI_ltI, nI_leI, nI_eq, q0, q1, q2, q3, q4, q5, q6, q10, q100, br_Tr, br_Fa, iI_s, iI_n, bI_q0, bI_q1, or_true, true_or, not_true_eq_false, not_false_eq_true, nI_l, ge64, Nat.lt_irrefl, Nat.add_sub_cancel, Nat.not_lt_zero, lN_0, lN_1e4, lN_1e6, lN_1e3, lN_add, lN_mul, lN_ltI, lN_leI, lN_eqI, lN_i, lcE, lcLe, lcLt, lN_div, q7, q12, q20, q99, q200, q999, q1e4, if_true, if_false, Nat.le_refl]
  cases h4 : inN w 2
  · simp only [h4, Bool.and_false, Bool.false_and, Bool.and_true, Bool.true_and, cond_false, cond_true] at q
    exact ax_brt rfl (d68 hx (by decide) q)
  simp only [h4, Bool.and_false, Bool.false_and, Bool.and_true, Bool.true_and, cond_false, cond_true] at q
  refine ax_brf (by decide) ?_
  refine d57 (n := 999) (by omega) ?_
  try simp (disch := omega) only [hx.1.all, wr_s, in_nI, clN, ti_z, ti_l, true_and, and_true, kI, zI, rI, kL, zL, rL, kR, zR, nnI, nnL, nnR, iL, iR, lI, lR, exi, exl, exv, eq_self, nI_add, nI_mul, nI_sub, nI_ltI, nI_leI, nI_eq, q0, q1, q2, q3, q4, q5, q6, q10, q100, br_Tr, br_Fa, iI_s, iI_n, bI_q0, bI_q1, or_true, true_or, not_true_eq_false, not_false_eq_true, nI_l, ge64, Nat.lt_irrefl, Nat.add_sub_cancel, Nat.not_lt_zero, lN_0, lN_1e4, lN_1e6, lN_1e3, lN_add, lN_mul, lN_ltI, lN_leI, lN_eqI, lN_i, lcE, lcLe, lcLt, lN_div, q7, q12, q20, q99, q200, q999, q1e4, if_true, if_false, Nat.le_refl]
  cases h3 : inN z 1000
  · simp only [h3, Bool.and_false, Bool.false_and, Bool.and_true, Bool.true_and, cond_false, cond_true] at q
    exact ax_brt rfl (d68 hx (by decide) q)
  simp only [h3, Bool.and_false, Bool.false_and, Bool.and_true, Bool.true_and, cond_false, cond_true] at q
  refine ax_brf (by decide) ?_
  obtain ⟨g, hh1, rfl⟩ := inN_t (by omega) h1
  obtain ⟨m, hh2, rfl⟩ := inN_t (by omega) h2
  obtain ⟨o, hh3, rfl⟩ := inN_t (by omega) h3
  obtain ⟨w, hh4, rfl⟩ := inN_t (by omega) h4
  obtain ⟨N, hM0, -, -, he⟩ := hx.mb hh1
  have hM := hM0.s0 (v := nI 0)
  have hbd := hM0.bd
  simp only [cl_nI (show g < 2 ^ 31 by omega), cl_nI (show m < 2 ^ 31 by omega), cl_nI (show o < 2 ^ 31 by omega), cl_nI (show w < 2 ^ 31 by omega)] at q
  refine up_to (P := fun x => (ax_Rw l G ax_h157 (ax_E G ax_h157 (fun x μ' => ∃ v : Int32, x = some (ax_i v) ∧ K v μ')) 60 [(0, ax_r (some 332)), (1, ax_i (nI g)), (2, ax_i (nI m)), (3, ax_i (nI o)), (4, ax_i (nI w)), (5, ax_i (bI mo)), (6, ax_i (eN (endO (ldo st) g m o w mo x))), (7, ax_i (nI x))] [] 0 0 (sI μ 332 0 (nI 0)))) 21 ?_ (fun x hx1 ih => ?_) 0 (Nat.zero_le _)
  · have hin := endO_in (a := ldo st) (g := g) (m := m) (o := o) (w := w) (mo := mo) 21 (Nat.le_refl _)
    refine sg157_60 l G _ 332 _ _ _ _ _ _ _ _ ?_
    try simp (disch := omega) only [hM0.1.1.2.1.all, hM0.1.1.2.2.1, hM0.1.1.2.2.2.1.all, hM0.1.1.2.2.2.all, hM0.1.2, hM0.2, show ¬ (21 ≤ 20) by omega, wr_s, in_nI, clN, ti_z, ti_l, true_and, and_true, kI, zI, rI, kL, zL, rL, kR, zR, nnI, nnL, nnR, iL, iR, lI, lR, exi, exl, exv, eq_self, nI_add, nI_mul, nI_sub, nI_ltI, nI_leI, nI_eq, q0, q1, q2, q3, q4, q5, q6, q10, q100, br_Tr, br_Fa, iI_s, iI_n, bI_q0, bI_q1, or_true, true_or, not_true_eq_false, not_false_eq_true, nI_l, ge64, Nat.lt_irrefl, Nat.add_sub_cancel, Nat.not_lt_zero, lN_0, lN_1e4, lN_1e6, lN_1e3, lN_add, lN_mul, lN_ltI, lN_leI, lN_eqI, lN_i, lcE, lcLe, lcLt, lN_div, q7, q12, q20, q99, q200, q999, q1e4, if_true, if_false, Nat.le_refl]
    cases he2 : endO (ldo st) g m o w mo 21 with
    | none =>
      rw [he2] at q
      exact ax_brt (by decide +kernel) (d68 hx (by decide) q)
    | some v =>
      rw [he2] at q hin
      have hv := hin v rfl
      refine ax_brf (fun e => ?_) (d51 hx q)
      have e : eN (some v) = -nI 1 := e
      rw [enc_neN (fun b h => by cases h; omega)] at e
      cases e
  · refine sg157_60 l G _ 332 _ _ _ _ _ _ _ _ ?_
    try simp (disch := omega) only [show x ≤ 20 by omega, wr_s, in_nI, clN, ti_z, ti_l, true_and, and_true, kI, zI, rI, kL, zL, rL, kR, zR, nnI, nnL, nnR, iL, iR, lI, lR, exi, exl, exv, eq_self, nI_add, nI_mul, nI_sub, nI_ltI, nI_leI, nI_eq, q0, q1, q2, q3, q4, q5, q6, q10, q100, br_Tr, br_Fa, iI_s, iI_n, bI_q0, bI_q1, or_true, true_or, not_true_eq_false, not_false_eq_true, nI_l, ge64, Nat.lt_irrefl, Nat.add_sub_cancel, Nat.not_lt_zero, lN_0, lN_1e4, lN_1e6, lN_1e3, lN_add, lN_mul, lN_ltI, lN_leI, lN_eqI, lN_i, lcE, lcLe, lcLt, lN_div, q7, q12, q20, q99, q200, q999, q1e4, if_true, if_false, Nat.le_refl]
    refine up_to (P := fun y => (ax_Rw l G ax_h157 (ax_E G ax_h157 (fun x μ' => ∃ v : Int32, x = some (ax_i v) ∧ K v μ')) 70 [(0, ax_r (some 332)), (1, ax_i (nI g)), (2, ax_i (nI m)), (3, ax_i (nI o)), (4, ax_i (nI w)), (5, ax_i (bI mo)), (6, ax_i (eN (endI (ldo st) g m o w mo x (endO (ldo st) g m o w mo x) y))), (7, ax_i (nI x)), (8, ax_i (nI y))] [] 0 0 (sI μ 332 0 (nI 0)))) 21 ?_ (fun y hy ih' => ?_) 0 (Nat.zero_le _)
    · refine sg157_70 l G _ 332 _ _ _ _ _ _ _ _ _ ?_
      try simp (disch := omega) only [show ¬ (21 ≤ 20) by omega, wr_s, in_nI, clN, ti_z, ti_l, true_and, and_true, kI, zI, rI, kL, zL, rL, kR, zR, nnI, nnL, nnR, iL, iR, lI, lR, exi, exl, exv, eq_self, nI_add, nI_mul, nI_sub, nI_ltI, nI_leI, nI_eq, q0, q1, q2, q3, q4, q5, q6, q10, q100, br_Tr, br_Fa, iI_s, iI_n, bI_q0, bI_q1, or_true, true_or, not_true_eq_false, not_false_eq_true, nI_l, ge64, Nat.lt_irrefl, Nat.add_sub_cancel, Nat.not_lt_zero, lN_0, lN_1e4, lN_1e6, lN_1e3, lN_add, lN_mul, lN_ltI, lN_leI, lN_eqI, lN_i, lcE, lcLe, lcLt, lN_div, q7, q12, q20, q99, q200, q999, q1e4, if_true, if_false, Nat.le_refl]
      exact ih
    · have hin := endI_in (a := ldo st) (g := g) (m := m) (o := o) (w := w) (mo := mo) (x := x) (by omega) (endO_in (a := ldo st) (g := g) (m := m) (o := o) (w := w) (mo := mo) x (by omega)) y (by omega)
      refine sg157_70 l G _ 332 _ _ _ _ _ _ _ _ _ ?_
      try simp (disch := omega) only [show y ≤ 20 by omega, hM0.1.1.2.1.all, hM0.1.1.2.2.1, hM0.1.1.2.2.2.1.all, hM0.1.1.2.2.2.all, hM0.1.2, hM0.2, wr_s, in_nI, clN, ti_z, ti_l, true_and, and_true, kI, zI, rI, kL, zL, rL, kR, zR, nnI, nnL, nnR, iL, iR, lI, lR, exi, exl, exv, eq_self, nI_add, nI_mul, nI_sub, nI_ltI, nI_leI, nI_eq, q0, q1, q2, q3, q4, q5, q6, q10, q100, br_Tr, br_Fa, iI_s, iI_n, bI_q0, bI_q1, or_true, true_or, not_true_eq_false, not_false_eq_true, nI_l, ge64, Nat.lt_irrefl, Nat.add_sub_cancel, Nat.not_lt_zero, lN_0, lN_1e4, lN_1e6, lN_1e3, lN_add, lN_mul, lN_ltI, lN_leI, lN_eqI, lN_i, lcE, lcLe, lcLt, lN_div, q7, q12, q20, q99, q200, q999, q1e4, if_true, if_false, Nat.le_refl]
      refine d115 hM.1 (by omega) (by omega) (by omega) (by omega) (by omega) ?_
      try simp (disch := omega) only [wr_s, in_nI, clN, ti_z, ti_l, true_and, and_true, kI, zI, rI, kL, zL, rL, kR, zR, nnI, nnL, nnR, iL, iR, lI, lR, exi, exl, exv, eq_self, nI_add, nI_mul, nI_sub, nI_ltI, nI_leI, nI_eq, q0, q1, q2, q3, q4, q5, q6, q10, q100, br_Tr, br_Fa, iI_s, iI_n, bI_q0, bI_q1, or_true, true_or, not_true_eq_false, not_false_eq_true, nI_l, ge64, Nat.lt_irrefl, Nat.add_sub_cancel, Nat.not_lt_zero, lN_0, lN_1e4, lN_1e6, lN_1e3, lN_add, lN_mul, lN_ltI, lN_leI, lN_eqI, lN_i, lcE, lcLe, lcLt, lN_div, q7, q12, q20, q99, q200, q999, q1e4, if_true, if_false, Nat.le_refl]
      unfold endI endS at ih'
      refine ax_brc (fun h => ?_) (fun h => ?_)
      · rw [h, Bool.false_and, if_neg Bool.false_ne_true] at ih'
        exact ih'
      · have fin : ∀ v, v = (if w = 0 then x else y) → (ax_Rw l G ax_h157 (ax_E G ax_h157 (fun x μ' => ∃ v : Int32, x = some (ax_i v) ∧ K v μ')) 106 [(0, ax_r (some 332)), (1, ax_i (nI g)), (2, ax_i (nI m)), (3, ax_i (nI o)), (4, ax_i (nI w)), (5, ax_i (bI mo)), (6, ax_i (eN (endI (ldo st) g m o w mo x (endO (ldo st) g m o w mo x) y))), (7, ax_i (nI x)), (8, ax_i (nI y))] [ax_i (nI v)] 0 0 (sI μ 332 0 (nI 0))) := by
          intro v hv
          have hv2 : v ≤ 20 := by rw [hv]; split <;> omega
          rw [show isW (ldo st) g m o x y = true by simpa using h, Bool.true_and, ← hv] at ih'
          refine sg157_106 l G _ 332 _ _ _ _ _ _ _ _ _ _ ?_
          rw [q0, q1, nI_add]
          refine fur_c (fun b h => by have := hin b h; omega) (by omega) (fun hf => ?_) (fun hf => ?_)
          · rw [hf, if_pos rfl] at ih'
            exact ih'
          · rw [hf, if_neg Bool.false_ne_true] at ih'
            exact ih'
        refine ax_brc (fun h => ?_) (fun h => ?_)
        · exact fin x (by rw [if_pos h])
        · exact fin y (by rw [if_neg h])

theorem m221 {k y o : Int32} {K : Int32 → ax_M → Prop} (hx : Mx μ st) (q : ∀ μ', OutM μ μ' → Mx μ' (aLook st k y o).2 → K (aLook st k y o).1 μ') : ax_CI l G 221 [ax_r (some 332), ax_i k, ax_i y, ax_i o] μ K := by
  have hb := hx.bd
  unfold aLook at q
  rw [Bool.and_comm] at q
  refine ax_Ct.of (by decide) (Nat.le_of_ble_eq_true rfl) (sg221_0 l G _ 332 _ _ _ _ ?_)
  try simp (disch := omega) only [hx.1.all, wr_s, in_nI, clN, ti_z, ti_l, true_and, and_true, kI, zI, rI, kL, zL, rL, kR, zR, nnI, nnL, nnR, iL, iR, lI, lR, exi, exl, exv, eq_self, nI_add, nI_mul, nI_sub, nI_ltI, nI_leI, nI_eq, q0, q1, q2, q3, q4, q5, q6, q10, q100, br_Tr, br_Fa, iI_s, iI_n, bI_q0, bI_q1, or_true, true_or, not_true_eq_false, not_false_eq_true, nI_l, ge64, Nat.lt_irrefl, Nat.add_sub_cancel, Nat.not_lt_zero, lN_0, lN_1e4, lN_1e6, lN_1e3, lN_add, lN_mul, lN_ltI, lN_leI, lN_eqI, lN_i, lcE, lcLe, lcLt, lN_div, q7, q12, q20, q99, q200, q999, q1e4, if_true, if_false, Nat.le_refl]
  refine d62 hx.s0 ?_
  try simp (disch := omega) only [hx.1.all, wr_s, in_nI, clN, ti_z, ti_l, true_and, and_true, kI, zI, rI, kL, zL, rL, kR, zR, nnI, nnL, nnR, iL, iR, lI, lR, exi, exl, exv, eq_self, nI_add, nI_mul, nI_sub, nI_ltI, nI_leI, nI_eq, q0, q1, q2, q3, q4, q5, q6, q10, q100, br_Tr, br_Fa, iI_s, iI_n, bI_q0, bI_q1, or_true, true_or, not_true_eq_false, not_false_eq_true, nI_l, ge64, Nat.lt_irrefl, Nat.add_sub_cancel, Nat.not_lt_zero, lN_0, lN_1e4, lN_1e6, lN_1e3, lN_add, lN_mul, lN_ltI, lN_leI, lN_eqI, lN_i, lcE, lcLe, lcLt, lN_div, q7, q12, q20, q99, q200, q999, q1e4, if_true, if_false, Nat.le_refl]
  cases h1 : inN y (cn st 0)
  · simp only [h1, Bool.and_false, Bool.false_and, Bool.and_true, Bool.true_and, cond_false, cond_true] at q
    exact ax_brt rfl (d68 hx (by decide) q)
  simp only [h1, Bool.and_false, Bool.false_and, Bool.and_true, Bool.true_and, cond_false, cond_true] at q
  refine ax_brf (by decide) ?_
  refine d63 hx.s0 ?_
  try simp (disch := omega) only [hx.1.all, wr_s, in_nI, clN, ti_z, ti_l, true_and, and_true, kI, zI, rI, kL, zL, rL, kR, zR, nnI, nnL, nnR, iL, iR, lI, lR, exi, exl, exv, eq_self, nI_add, nI_mul, nI_sub, nI_ltI, nI_leI, nI_eq, q0, q1, q2, q3, q4, q5, q6, q10, q100, br_Tr, br_Fa, iI_s, iI_n, bI_q0, bI_q1, or_true, true_or, not_true_eq_false, not_false_eq_true, nI_l, ge64, Nat.lt_irrefl, Nat.add_sub_cancel, Nat.not_lt_zero, lN_0, lN_1e4, lN_1e6, lN_1e3, lN_add, lN_mul, lN_ltI, lN_leI, lN_eqI, lN_i, lcE, lcLe, lcLt, lN_div, q7, q12, q20, q99, q200, q999, q1e4, if_true, if_false, Nat.le_refl]
  cases h2 : inN o (cn st 6)
  · simp only [h2, Bool.and_false, Bool.false_and, Bool.and_true, Bool.true_and, cond_false, cond_true] at q
    exact ax_brt rfl (d68 hx (by decide) q)
  simp only [h2, Bool.and_false, Bool.false_and, Bool.and_true, Bool.true_and, cond_false, cond_true] at q
  refine ax_brf (by decide) ?_
  obtain ⟨m, hh1, rfl⟩ := inN_t (by omega) h1
  obtain ⟨o, hh2, rfl⟩ := inN_t (by omega) h2
  obtain ⟨N, hM0, -, -, he⟩ := hx.mb hh1
  have hM := hM0.s0 (v := nI 0)
  have hbd := hM0.bd
  simp only [cl_nI (show m < 2 ^ 31 by omega), cl_nI (show o < 2 ^ 31 by omega)] at q
  try simp (disch := omega) only [hM0.1.1.2.1.all, hM0.1.1.2.2.1, hM0.1.1.2.2.2.1.all, hM0.1.1.2.2.2.all, hM0.1.2, hM0.2, wr_s, in_nI, clN, ti_z, ti_l, true_and, and_true, kI, zI, rI, kL, zL, rL, kR, zR, nnI, nnL, nnR, iL, iR, lI, lR, exi, exl, exv, eq_self, nI_add, nI_mul, nI_sub, nI_ltI, nI_leI, nI_eq, q0, q1, q2, q3, q4, q5, q6, q10, q100, br_Tr, br_Fa, iI_s, iI_n, bI_q0, bI_q1, or_true, true_or, not_true_eq_false, not_false_eq_true, nI_l, ge64, Nat.lt_irrefl, Nat.add_sub_cancel, Nat.not_lt_zero, lN_0, lN_1e4, lN_1e6, lN_1e3, lN_add, lN_mul, lN_ltI, lN_leI, lN_eqI, lN_i, lcE, lcLe, lcLt, lN_div, q7, q12, q20, q99, q200, q999, q1e4, if_true, if_false, Nat.le_refl]
  refine d57k ?_
  rw [he.2.2.1] at q
  try simp (disch := omega) only [hM0.1.1.2.1.all, hM0.1.1.2.2.1, hM0.1.1.2.2.2.1.all, hM0.1.1.2.2.2.all, hM0.1.2, hM0.2, wr_s, in_nI, clN, ti_z, ti_l, true_and, and_true, kI, zI, rI, kL, zL, rL, kR, zR, nnI, nnL, nnR, iL, iR, lI, lR, exi, exl, exv, eq_self, nI_add, nI_mul, nI_sub, nI_ltI, nI_leI, nI_eq, q0, q1, q2, q3, q4, q5, q6, q10, q100, br_Tr, br_Fa, iI_s, iI_n, bI_q0, bI_q1, or_true, true_or, not_true_eq_false, not_false_eq_true, nI_l, ge64, Nat.lt_irrefl, Nat.add_sub_cancel, Nat.not_lt_zero, lN_0, lN_1e4, lN_1e6, lN_1e3, lN_add, lN_mul, lN_ltI, lN_leI, lN_eqI, lN_i, lcE, lcLe, lcLt, lN_div, q7, q12, q20, q99, q200, q999, q1e4, if_true, if_false, Nat.le_refl]
  cases h3 : inK k (nTh (ldo st))
  · simp only [h3, cond_false, cond_true] at q
    exact ax_brt rfl (d68 hx (by decide) q)
  simp only [h3, cond_false, cond_true] at q
  refine ax_brf (by decide) ?_
  rw [inK_L (by omega)] at h3
  obtain ⟨k, hk1, hk2, rfl⟩ := inL_t (by omega) h3
  rw [cl_nI (by omega)] at q
  have ha := hM.1.1.1
  have hlv := liv_in (ldo st) 0 m
  have hp := pow_in (nTh (ldo st)) (by omega)
  have h1p : 1 ≤ 2 ^ nTh (ldo st) := Nat.one_le_two_pow
  refine d203 hM.1 (by omega) (by omega) ?_
  have e0 : lkK (ldo st) k m o 1 = none := by
    show (if bts 0 = k ∧ 0 < sOs (ldo st) m o 0 then _ else _) = _
    rw [if_neg (fun q => by have : bts 0 = 0 := (by decide +kernel); omega)]; rfl
  suffices st0 : (ax_Rw l G ax_h221 (ax_E G ax_h221 (fun x μ' => ∃ v : Int32, x = some (ax_i v) ∧ K v μ')) 66 [(0, ax_r (some 332)), (1, ax_i (nI k)), (2, ax_i (nI m)), (3, ax_i (nI o)), (4, ax_i (nI (liv (ldo st) 0 m))), (5, ax_i (e4 (lkK (ldo st) k m o 1))), (6, ax_i (e5 (lkK (ldo st) k m o 1))), (7, ax_i (nI 1))] [] 0 0 (sI μ 332 0 (nI 0))) by
    rw [e0] at st0; exact st0
  refine up_to (P := fun j => (ax_Rw l G ax_h221 (ax_E G ax_h221 (fun x μ' => ∃ v : Int32, x = some (ax_i v) ∧ K v μ')) 66 [(0, ax_r (some 332)), (1, ax_i (nI k)), (2, ax_i (nI m)), (3, ax_i (nI o)), (4, ax_i (nI (liv (ldo st) 0 m))), (5, ax_i (e4 (lkK (ldo st) k m o (j + 1)))), (6, ax_i (e5 (lkK (ldo st) k m o (j + 1)))), (7, ax_i (nI (j + 1)))] [] 0 0 (sI μ 332 0 (nI 0)))) (2 ^ nTh (ldo st) - 1) ?_ (fun j hj ih => ?_) 0 (Nat.zero_le _)
  · refine sg221_66 l G _ 332 _ _ _ _ _ _ _ _ ?_
    try simp (disch := omega) only [hM0.1.1.2.1.all, hM0.1.1.2.2.1, hM0.1.1.2.2.2.1.all, hM0.1.1.2.2.2.all, hM0.1.2, hM0.2, wr_s, in_nI, clN, ti_z, ti_l, true_and, and_true, kI, zI, rI, kL, zL, rL, kR, zR, nnI, nnL, nnR, iL, iR, lI, lR, exi, exl, exv, eq_self, nI_add, nI_mul, nI_sub, nI_ltI, nI_leI, nI_eq, q0, q1, q2, q3, q4, q5, q6, q10, q100, br_Tr, br_Fa, iI_s, iI_n, bI_q0, bI_q1, or_true, true_or, not_true_eq_false, not_false_eq_true, nI_l, ge64, Nat.lt_irrefl, Nat.add_sub_cancel, Nat.not_lt_zero, lN_0, lN_1e4, lN_1e6, lN_1e3, lN_add, lN_mul, lN_ltI, lN_leI, lN_eqI, lN_i, lcE, lcLe, lcLt, lN_div, q7, q12, q20, q99, q200, q999, q1e4, if_true, if_false, Nat.le_refl]
    refine d52 hM.1.1 ?_
    try simp (disch := omega) only [hM0.1.1.2.1.all, hM0.1.1.2.2.1, hM0.1.1.2.2.2.1.all, hM0.1.1.2.2.2.all, hM0.1.2, hM0.2, show ¬ (2 ^ nTh (ldo st) - 1 + 1 ≤ 2 ^ nTh (ldo st) - 1) by omega, wr_s, in_nI, clN, ti_z, ti_l, true_and, and_true, kI, zI, rI, kL, zL, rL, kR, zR, nnI, nnL, nnR, iL, iR, lI, lR, exi, exl, exv, eq_self, nI_add, nI_mul, nI_sub, nI_ltI, nI_leI, nI_eq, q0, q1, q2, q3, q4, q5, q6, q10, q100, br_Tr, br_Fa, iI_s, iI_n, bI_q0, bI_q1, or_true, true_or, not_true_eq_false, not_false_eq_true, nI_l, ge64, Nat.lt_irrefl, Nat.add_sub_cancel, Nat.not_lt_zero, lN_0, lN_1e4, lN_1e6, lN_1e3, lN_add, lN_mul, lN_ltI, lN_leI, lN_eqI, lN_i, lcE, lcLe, lcLt, lN_div, q7, q12, q20, q99, q200, q999, q1e4, if_true, if_false, Nat.le_refl]
    rw [show 2 ^ nTh (ldo st) - 1 + 1 = 2 ^ nTh (ldo st) by omega]
    exact d51 hx q
  · have hoi := sOs_in ha (m := m) (o := o) (s := j + 1)
    have hti := sTs_in ha (m := m) (o := o) (s := j + 1)
    have hri := rat_le (sTs (ldo st) m o (j + 1)) (sOs (ldo st) m o (j + 1))
    have hgi := gapS_in (ldo st) m o (j + 1)
    have hbi : bts (j + 1) ≤ 8 := by
      have := sumN_le (f := fun i => ((j + 1).testBit i).toNat) (b := 1) (n := 8) (fun i _ => by cases h : (j + 1).testBit i <;> simp [h])
      unfold bts; omega
    rw [show lkK (ldo st) k m o (j + 1 + 1) = (if bts (j + 1) = k ∧ 0 < sOs (ldo st) m o (j + 1) then (match lkK (ldo st) k m o (j + 1) with
      | none => some (j + 1, gapS (ldo st) m o (j + 1))
      | some b => if gapS (ldo st) m o (j + 1) < b.2 then some (j + 1, gapS (ldo st) m o (j + 1)) else some b) else lkK (ldo st) k m o (j + 1)) from rfl] at ih
    refine sg221_66 l G _ 332 _ _ _ _ _ _ _ _ ?_
    try simp (disch := omega) only [hM0.1.1.2.1.all, hM0.1.1.2.2.1, hM0.1.1.2.2.2.1.all, hM0.1.1.2.2.2.all, hM0.1.2, hM0.2, wr_s, in_nI, clN, ti_z, ti_l, true_and, and_true, kI, zI, rI, kL, zL, rL, kR, zR, nnI, nnL, nnR, iL, iR, lI, lR, exi, exl, exv, eq_self, nI_add, nI_mul, nI_sub, nI_ltI, nI_leI, nI_eq, q0, q1, q2, q3, q4, q5, q6, q10, q100, br_Tr, br_Fa, iI_s, iI_n, bI_q0, bI_q1, or_true, true_or, not_true_eq_false, not_false_eq_true, nI_l, ge64, Nat.lt_irrefl, Nat.add_sub_cancel, Nat.not_lt_zero, lN_0, lN_1e4, lN_1e6, lN_1e3, lN_add, lN_mul, lN_ltI, lN_leI, lN_eqI, lN_i, lcE, lcLe, lcLt, lN_div, q7, q12, q20, q99, q200, q999, q1e4, if_true, if_false, Nat.le_refl]
    refine d52 hM.1.1 ?_
    try simp (disch := omega) only [hM0.1.1.2.1.all, hM0.1.1.2.2.1, hM0.1.1.2.2.2.1.all, hM0.1.1.2.2.2.all, hM0.1.2, hM0.2, show j + 1 ≤ 2 ^ nTh (ldo st) - 1 by omega, wr_s, in_nI, clN, ti_z, ti_l, true_and, and_true, kI, zI, rI, kL, zL, rL, kR, zR, nnI, nnL, nnR, iL, iR, lI, lR, exi, exl, exv, eq_self, nI_add, nI_mul, nI_sub, nI_ltI, nI_leI, nI_eq, q0, q1, q2, q3, q4, q5, q6, q10, q100, br_Tr, br_Fa, iI_s, iI_n, bI_q0, bI_q1, or_true, true_or, not_true_eq_false, not_false_eq_true, nI_l, ge64, Nat.lt_irrefl, Nat.add_sub_cancel, Nat.not_lt_zero, lN_0, lN_1e4, lN_1e6, lN_1e3, lN_add, lN_mul, lN_ltI, lN_leI, lN_eqI, lN_i, lcE, lcLe, lcLt, lN_div, q7, q12, q20, q99, q200, q999, q1e4, if_true, if_false, Nat.le_refl]
    refine d48 (by omega) ?_
    try simp (disch := omega) only [hM0.1.1.2.1.all, hM0.1.1.2.2.1, hM0.1.1.2.2.2.1.all, hM0.1.1.2.2.2.all, hM0.1.2, hM0.2, wr_s, in_nI, clN, ti_z, ti_l, true_and, and_true, kI, zI, rI, kL, zL, rL, kR, zR, nnI, nnL, nnR, iL, iR, lI, lR, exi, exl, exv, eq_self, nI_add, nI_mul, nI_sub, nI_ltI, nI_leI, nI_eq, q0, q1, q2, q3, q4, q5, q6, q10, q100, br_Tr, br_Fa, iI_s, iI_n, bI_q0, bI_q1, or_true, true_or, not_true_eq_false, not_false_eq_true, nI_l, ge64, Nat.lt_irrefl, Nat.add_sub_cancel, Nat.not_lt_zero, lN_0, lN_1e4, lN_1e6, lN_1e3, lN_add, lN_mul, lN_ltI, lN_leI, lN_eqI, lN_i, lcE, lcLe, lcLt, lN_div, q7, q12, q20, q99, q200, q999, q1e4, if_true, if_false, Nat.le_refl]
    refine ax_brc (fun h1 => ?_) (fun h1 => ?_)
    · refine d190 (own := true) hM (by omega) (by omega) (by omega) (by omega) ?_
      rw [show sX (ldo st) o 0 m (j + 1) true (nTh (ldo st)) = sOs (ldo st) m o (j + 1) from rfl]
      try simp (disch := omega) only [hM0.1.1.2.1.all, hM0.1.1.2.2.1, hM0.1.1.2.2.2.1.all, hM0.1.1.2.2.2.all, hM0.1.2, hM0.2, wr_s, in_nI, clN, ti_z, ti_l, true_and, and_true, kI, zI, rI, kL, zL, rL, kR, zR, nnI, nnL, nnR, iL, iR, lI, lR, exi, exl, exv, eq_self, nI_add, nI_mul, nI_sub, nI_ltI, nI_leI, nI_eq, q0, q1, q2, q3, q4, q5, q6, q10, q100, br_Tr, br_Fa, iI_s, iI_n, bI_q0, bI_q1, or_true, true_or, not_true_eq_false, not_false_eq_true, nI_l, ge64, Nat.lt_irrefl, Nat.add_sub_cancel, Nat.not_lt_zero, lN_0, lN_1e4, lN_1e6, lN_1e3, lN_add, lN_mul, lN_ltI, lN_leI, lN_eqI, lN_i, lcE, lcLe, lcLt, lN_div, q7, q12, q20, q99, q200, q999, q1e4, if_true, if_false, Nat.le_refl]
      refine ax_brc (fun h2 => ?_) (fun h2 => ?_)
      · rw [if_neg (fun q => by omega)] at ih
        exact ih
      · rw [if_pos ⟨h1, by omega⟩] at ih
        refine d190 (own := false) hM (by omega) (by omega) (by omega) (by omega) ?_
        rw [show sX (ldo st) o 0 m (j + 1) false (nTh (ldo st)) = sTs (ldo st) m o (j + 1) from rfl]
        refine d69 (by omega) (by omega) ?_
        try simp (disch := omega) only [hM0.1.1.2.1.all, hM0.1.1.2.2.1, hM0.1.1.2.2.2.1.all, hM0.1.1.2.2.2.all, hM0.1.2, hM0.2, wr_s, in_nI, clN, ti_z, ti_l, true_and, and_true, kI, zI, rI, kL, zL, rL, kR, zR, nnI, nnL, nnR, iL, iR, lI, lR, exi, exl, exv, eq_self, nI_add, nI_mul, nI_ltI, nI_leI, nI_eq, q0, q1, q2, q3, q4, q5, q6, q10, q100, br_Tr, br_Fa, iI_s, iI_n, bI_q0, bI_q1, or_true, true_or, not_true_eq_false, not_false_eq_true, nI_l, ge64, Nat.lt_irrefl, Nat.add_sub_cancel, Nat.not_lt_zero, lN_0, lN_1e4, lN_1e6, lN_1e3, lN_add, lN_mul, lN_ltI, lN_leI, lN_eqI, lN_i, lcE, lcLe, lcLt, lN_div, q7, q12, q20, q99, q200, q999, q1e4, if_true, if_false, Nat.le_refl]
        have fin : ax_br (e4 (lkK (ldo st) k m o (j + 1)) = -nI 2) (ax_Rw l G ax_h221 (ax_E G ax_h221 (fun x μ' => ∃ v : Int32, x = some (ax_i v) ∧ K v μ')) 66 [(0, ax_r (some 332)), (1, ax_i (nI k)), (2, ax_i (nI m)), (3, ax_i (nI o)), (4, ax_i (nI (liv (ldo st) 0 m))), (5, ax_i (nI (j + 1))), (6, ax_i (nI (gapS (ldo st) m o (j + 1)))), (7, ax_i (nI (j + 1 + 1)))] [] 0 0 (sI μ 332 0 (nI 0))) (ax_br (nI (gapS (ldo st) m o (j + 1)) < e5 (lkK (ldo st) k m o (j + 1))) (ax_Rw l G ax_h221 (ax_E G ax_h221 (fun x μ' => ∃ v : Int32, x = some (ax_i v) ∧ K v μ')) 66 [(0, ax_r (some 332)), (1, ax_i (nI k)), (2, ax_i (nI m)), (3, ax_i (nI o)), (4, ax_i (nI (liv (ldo st) 0 m))), (5, ax_i (nI (j + 1))), (6, ax_i (nI (gapS (ldo st) m o (j + 1)))), (7, ax_i (nI (j + 1 + 1)))] [] 0 0 (sI μ 332 0 (nI 0))) (ax_Rw l G ax_h221 (ax_E G ax_h221 (fun x μ' => ∃ v : Int32, x = some (ax_i v) ∧ K v μ')) 66 [(0, ax_r (some 332)), (1, ax_i (nI k)), (2, ax_i (nI m)), (3, ax_i (nI o)), (4, ax_i (nI (liv (ldo st) 0 m))), (5, ax_i (e4 (lkK (ldo st) k m o (j + 1)))), (6, ax_i (e5 (lkK (ldo st) k m o (j + 1)))), (7, ax_i (nI (j + 1 + 1)))] [] 0 0 (sI μ 332 0 (nI 0)))) := by
          cases hq : lkK (ldo st) k m o (j + 1) with
          | none =>
            rw [hq] at ih
            exact ax_brt (by decide +kernel) ih
          | some b =>
            rw [hq] at ih
            have hi := lkK_in (ldo st) k m o (j + 1) b hq
            refine ax_brf (fun e => neg2_ne (show b.1 < 2 ^ 31 by omega) e.symm) ?_
            simp only at ih
            refine br_lt (gapS (ldo st) m o (j + 1)) b.2 rfl rfl (by omega) (by omega) (fun h => ?_) (fun h => ?_)
            · rw [if_pos h] at ih; exact ih
            · rw [if_neg (by omega)] at ih; exact ih
        have eg : dif (rat (sTs (ldo st) m o (j + 1)) (sOs (ldo st) m o (j + 1))) (liv (ldo st) 0 m) = gapS (ldo st) m o (j + 1) := rfl
        refine ax_brc (fun h3 => ?_) (fun h3 => ?_)
        · rw [neg_dif (by omega) (by omega) h3, eg]; exact fin
        · rw [pos_dif (by omega) (by omega) h3, eg]; exact fin
    · rw [if_neg (fun q => h1 q.1)] at ih
      exact ih

end F7
