section E2
variable {l : Launch} {G : ax_G} {μ : ax_M} {L M : Nat} {st : St}
def aMissed (st : St) (x y : Int32) : Int32 × St := aQ (inN x (cn st 5) && inN y (cn st 0)) st (nI (mis (ldo st) (cl x) (cl y)))
theorem p127 {x y : Int32} {K : Int32 → ax_M → Prop} (hx : X μ st) (q : ∀ μ', Out 64 332 μ μ' → X μ' (aMissed st x y).2 → K (aMissed st x y).1 μ') : ax_CI l G 127 [ax_r (some 64), ax_i x, ax_i y] μ K := by
  obtain ⟨L, M, hx⟩ := hx
  have hb := hx.bd
  refine ax_Ct.of (by decide) (Nat.le_of_ble_eq_true rfl) (sg127_0 l G _ 64 _ _ _ ?_)
  try simp (disch := omega) only [hx.all, wr_s, in_nI, clN, ti_z, ti_l, true_and, and_true, kI, zI, rI, kL, zL, rL, kR, zR, nnI, nnL, nnR, iL, iR, lI, lR, exi, exl, exv, eq_self, nI_add, nI_mul, nI_sub, nI_ltI, nI_leI, nI_eq, q0, q1, q2, q3, q4, q5, q6, q10, q100, br_Tr, br_Fa, iI_s, iI_n, bI_q0, bI_q1, or_true, true_or, not_true_eq_false, not_false_eq_true, nI_l, ge64, Nat.lt_irrefl, Nat.add_sub_cancel, Nat.not_lt_zero, lN_0, lN_1e4, lN_1e6, lN_1e3, lN_add, lN_mul, lN_ltI, lN_leI, lN_eqI, lN_i, lcE, lcLe, lcLt, lN_div]
  refine d83 hx ?_
  try simp (disch := omega) only [hx.all, wr_s, in_nI, clN, ti_z, ti_l, true_and, and_true, kI, zI, rI, kL, zL, rL, kR, zR, nnI, nnL, nnR, iL, iR, lI, lR, exi, exl, exv, eq_self, nI_add, nI_mul, nI_sub, nI_ltI, nI_leI, nI_eq, q0, q1, q2, q3, q4, q5, q6, q10, q100, br_Tr, br_Fa, iI_s, iI_n, bI_q0, bI_q1, or_true, true_or, not_true_eq_false, not_false_eq_true, nI_l, ge64, Nat.lt_irrefl, Nat.add_sub_cancel, Nat.not_lt_zero, lN_0, lN_1e4, lN_1e6, lN_1e3, lN_add, lN_mul, lN_ltI, lN_leI, lN_eqI, lN_i, lcE, lcLe, lcLt, lN_div]
  refine d3 hx.all.1.1 ?_
  unfold aMissed aQ at q
  have hx' := hx.q (b := inN x (cn st 5) && inN y (cn st 0))
  try simp (disch := omega) only [hx.all, hx'.all, wr_s, in_nI, clN, ti_z, ti_l, true_and, and_true, kI, zI, rI, kL, zL, rL, kR, zR, nnI, nnL, nnR, iL, iR, lI, lR, exi, exl, exv, eq_self, nI_add, nI_mul, nI_sub, nI_ltI, nI_leI, nI_eq, q0, q1, q2, q3, q4, q5, q6, q10, q100, br_Tr, br_Fa, iI_s, iI_n, bI_q0, bI_q1, or_true, true_or, not_true_eq_false, not_false_eq_true, nI_l, ge64, Nat.lt_irrefl, Nat.add_sub_cancel, Nat.not_lt_zero, lN_0, lN_1e4, lN_1e6, lN_1e3, lN_add, lN_mul, lN_ltI, lN_leI, lN_eqI, lN_i, lcE, lcLe, lcLt, lN_div]
  cases hc : (inN x (cn st 5) && inN y (cn st 0))
  · rw [hc] at q hx'
    exact ax_brt rfl (q _ ((Out.refl _ _ _).I (by omega) (by omega)) ⟨L, M, hx'⟩)
  · rw [hc] at q hx'
    simp only [Bool.and_eq_true] at hc
    obtain ⟨h, hh, rfl⟩ := inN_t (by omega) hc.1
    obtain ⟨m, hm, rfl⟩ := inN_t (by omega) hc.2
    obtain ⟨ht, he⟩ := hx.tn hh
    have hba := ht.bd
    rw [cl_nI (by omega), cl_nI (by omega)] at q
    refine ax_brf (by decide) ?_
    try simp (disch := omega) only [hx.all, wr_s, in_nI, clN, ti_z, ti_l, true_and, and_true, kI, zI, rI, kL, zL, rL, kR, zR, nnI, nnL, nnR, iL, iR, lI, lR, exi, exl, exv, eq_self, nI_add, nI_mul, nI_sub, nI_ltI, nI_leI, nI_eq, q0, q1, q2, q3, q4, q5, q6, q10, q100, br_Tr, br_Fa, iI_s, iI_n, bI_q0, bI_q1, or_true, true_or, not_true_eq_false, not_false_eq_true, nI_l, ge64, Nat.lt_irrefl, Nat.add_sub_cancel, Nat.not_lt_zero, lN_0, lN_1e4, lN_1e6, lN_1e3, lN_add, lN_mul, lN_ltI, lN_leI, lN_eqI, lN_i, lcE, lcLe, lcLt, lN_div]
    refine d96 (ht.t9 (by omega)).1.1.1 (by omega) (by omega) ?_
    exact (q _ ((Out.refl _ _ _).I (by omega) (by omega)) ⟨L, M, hx'⟩)
def aTruly (st : St) (x y : Int32) : Int32 × St := aQ (inN x (cn st 5) && inN y (cn st 0)) st (nI (tru (ldo st) (cl x) (cl y)))
theorem p183 {x y : Int32} {K : Int32 → ax_M → Prop} (hx : X μ st) (q : ∀ μ', Out 64 332 μ μ' → X μ' (aTruly st x y).2 → K (aTruly st x y).1 μ') : ax_CI l G 183 [ax_r (some 64), ax_i x, ax_i y] μ K := by
  obtain ⟨L, M, hx⟩ := hx
  have hb := hx.bd
  refine ax_Ct.of (by decide) (Nat.le_of_ble_eq_true rfl) (sg183_0 l G _ 64 _ _ _ ?_)
  try simp (disch := omega) only [hx.all, wr_s, in_nI, clN, ti_z, ti_l, true_and, and_true, kI, zI, rI, kL, zL, rL, kR, zR, nnI, nnL, nnR, iL, iR, lI, lR, exi, exl, exv, eq_self, nI_add, nI_mul, nI_sub, nI_ltI, nI_leI, nI_eq, q0, q1, q2, q3, q4, q5, q6, q10, q100, br_Tr, br_Fa, iI_s, iI_n, bI_q0, bI_q1, or_true, true_or, not_true_eq_false, not_false_eq_true, nI_l, ge64, Nat.lt_irrefl, Nat.add_sub_cancel, Nat.not_lt_zero, lN_0, lN_1e4, lN_1e6, lN_1e3, lN_add, lN_mul, lN_ltI, lN_leI, lN_eqI, lN_i, lcE, lcLe, lcLt, lN_div]
  refine d83 hx ?_
  try simp (disch := omega) only [hx.all, wr_s, in_nI, clN, ti_z, ti_l, true_and, and_true, kI, zI, rI, kL, zL, rL, kR, zR, nnI, nnL, nnR, iL, iR, lI, lR, exi, exl, exv, eq_self, nI_add, nI_mul, nI_sub, nI_ltI, nI_leI, nI_eq, q0, q1, q2, q3, q4, q5, q6, q10, q100, br_Tr, br_Fa, iI_s, iI_n, bI_q0, bI_q1, or_true, true_or, not_true_eq_false, not_false_eq_true, nI_l, ge64, Nat.lt_irrefl, Nat.add_sub_cancel, Nat.not_lt_zero, lN_0, lN_1e4, lN_1e6, lN_1e3, lN_add, lN_mul, lN_ltI, lN_leI, lN_eqI, lN_i, lcE, lcLe, lcLt, lN_div]
  refine d3 hx.all.1.1 ?_
  unfold aTruly aQ at q
  have hx' := hx.q (b := inN x (cn st 5) && inN y (cn st 0))
  try simp (disch := omega) only [hx.all, hx'.all, wr_s, in_nI, clN, ti_z, ti_l, true_and, and_true, kI, zI, rI, kL, zL, rL, kR, zR, nnI, nnL, nnR, iL, iR, lI, lR, exi, exl, exv, eq_self, nI_add, nI_mul, nI_sub, nI_ltI, nI_leI, nI_eq, q0, q1, q2, q3, q4, q5, q6, q10, q100, br_Tr, br_Fa, iI_s, iI_n, bI_q0, bI_q1, or_true, true_or, not_true_eq_false, not_false_eq_true, nI_l, ge64, Nat.lt_irrefl, Nat.add_sub_cancel, Nat.not_lt_zero, lN_0, lN_1e4, lN_1e6, lN_1e3, lN_add, lN_mul, lN_ltI, lN_leI, lN_eqI, lN_i, lcE, lcLe, lcLt, lN_div]
  cases hc : (inN x (cn st 5) && inN y (cn st 0))
  · rw [hc] at q hx'
    exact ax_brt rfl (q _ ((Out.refl _ _ _).I (by omega) (by omega)) ⟨L, M, hx'⟩)
  · rw [hc] at q hx'
    simp only [Bool.and_eq_true] at hc
    obtain ⟨h, hh, rfl⟩ := inN_t (by omega) hc.1
    obtain ⟨m, hm, rfl⟩ := inN_t (by omega) hc.2
    obtain ⟨ht, he⟩ := hx.tn hh
    have hba := ht.bd
    rw [cl_nI (by omega), cl_nI (by omega)] at q
    refine ax_brf (by decide) ?_
    try simp (disch := omega) only [hx.all, wr_s, in_nI, clN, ti_z, ti_l, true_and, and_true, kI, zI, rI, kL, zL, rL, kR, zR, nnI, nnL, nnR, iL, iR, lI, lR, exi, exl, exv, eq_self, nI_add, nI_mul, nI_sub, nI_ltI, nI_leI, nI_eq, q0, q1, q2, q3, q4, q5, q6, q10, q100, br_Tr, br_Fa, iI_s, iI_n, bI_q0, bI_q1, or_true, true_or, not_true_eq_false, not_false_eq_true, nI_l, ge64, Nat.lt_irrefl, Nat.add_sub_cancel, Nat.not_lt_zero, lN_0, lN_1e4, lN_1e6, lN_1e3, lN_add, lN_mul, lN_ltI, lN_leI, lN_eqI, lN_i, lcE, lcLe, lcLt, lN_div]
    refine d170 (ht.t9 (by omega)).1.1.1.1 (by omega) (by omega) ?_
    exact (q _ ((Out.refl _ _ _).I (by omega) (by omega)) ⟨L, M, hx'⟩)
def aLive (st : St) (x y : Int32) : Int32 × St := aQ (inN x (cn st 5) && inN y (cn st 0)) st (nI (liv (ldo st) (cl x) (cl y)))
theorem p195 {x y : Int32} {K : Int32 → ax_M → Prop} (hx : X μ st) (q : ∀ μ', Out 64 332 μ μ' → X μ' (aLive st x y).2 → K (aLive st x y).1 μ') : ax_CI l G 195 [ax_r (some 64), ax_i x, ax_i y] μ K := by
  obtain ⟨L, M, hx⟩ := hx
  have hb := hx.bd
  refine ax_Ct.of (by decide) (Nat.le_of_ble_eq_true rfl) (sg195_0 l G _ 64 _ _ _ ?_)
  try simp (disch := omega) only [hx.all, wr_s, in_nI, clN, ti_z, ti_l, true_and, and_true, kI, zI, rI, kL, zL, rL, kR, zR, nnI, nnL, nnR, iL, iR, lI, lR, exi, exl, exv, eq_self, nI_add, nI_mul, nI_sub, nI_ltI, nI_leI, nI_eq, q0, q1, q2, q3, q4, q5, q6, q10, q100, br_Tr, br_Fa, iI_s, iI_n, bI_q0, bI_q1, or_true, true_or, not_true_eq_false, not_false_eq_true, nI_l, ge64, Nat.lt_irrefl, Nat.add_sub_cancel, Nat.not_lt_zero, lN_0, lN_1e4, lN_1e6, lN_1e3, lN_add, lN_mul, lN_ltI, lN_leI, lN_eqI, lN_i, lcE, lcLe, lcLt, lN_div]
  refine d83 hx ?_
  try simp (disch := omega) only [hx.all, wr_s, in_nI, clN, ti_z, ti_l, true_and, and_true, kI, zI, rI, kL, zL, rL, kR, zR, nnI, nnL, nnR, iL, iR, lI, lR, exi, exl, exv, eq_self, nI_add, nI_mul, nI_sub, nI_ltI, nI_leI, nI_eq, q0, q1, q2, q3, q4, q5, q6, q10, q100, br_Tr, br_Fa, iI_s, iI_n, bI_q0, bI_q1, or_true, true_or, not_true_eq_false, not_false_eq_true, nI_l, ge64, Nat.lt_irrefl, Nat.add_sub_cancel, Nat.not_lt_zero, lN_0, lN_1e4, lN_1e6, lN_1e3, lN_add, lN_mul, lN_ltI, lN_leI, lN_eqI, lN_i, lcE, lcLe, lcLt, lN_div]
  refine d3 hx.all.1.1 ?_
  unfold aLive aQ at q
  have hx' := hx.q (b := inN x (cn st 5) && inN y (cn st 0))
  try simp (disch := omega) only [hx.all, hx'.all, wr_s, in_nI, clN, ti_z, ti_l, true_and, and_true, kI, zI, rI, kL, zL, rL, kR, zR, nnI, nnL, nnR, iL, iR, lI, lR, exi, exl, exv, eq_self, nI_add, nI_mul, nI_sub, nI_ltI, nI_leI, nI_eq, q0, q1, q2, q3, q4, q5, q6, q10, q100, br_Tr, br_Fa, iI_s, iI_n, bI_q0, bI_q1, or_true, true_or, not_true_eq_false, not_false_eq_true, nI_l, ge64, Nat.lt_irrefl, Nat.add_sub_cancel, Nat.not_lt_zero, lN_0, lN_1e4, lN_1e6, lN_1e3, lN_add, lN_mul, lN_ltI, lN_leI, lN_eqI, lN_i, lcE, lcLe, lcLt, lN_div]
  cases hc : (inN x (cn st 5) && inN y (cn st 0))
  · rw [hc] at q hx'
    exact ax_brt rfl (q _ ((Out.refl _ _ _).I (by omega) (by omega)) ⟨L, M, hx'⟩)
  · rw [hc] at q hx'
    simp only [Bool.and_eq_true] at hc
    obtain ⟨h, hh, rfl⟩ := inN_t (by omega) hc.1
    obtain ⟨m, hm, rfl⟩ := inN_t (by omega) hc.2
    obtain ⟨ht, he⟩ := hx.tn hh
    have hba := ht.bd
    rw [cl_nI (by omega), cl_nI (by omega)] at q
    refine ax_brf (by decide) ?_
    try simp (disch := omega) only [hx.all, wr_s, in_nI, clN, ti_z, ti_l, true_and, and_true, kI, zI, rI, kL, zL, rL, kR, zR, nnI, nnL, nnR, iL, iR, lI, lR, exi, exl, exv, eq_self, nI_add, nI_mul, nI_sub, nI_ltI, nI_leI, nI_eq, q0, q1, q2, q3, q4, q5, q6, q10, q100, br_Tr, br_Fa, iI_s, iI_n, bI_q0, bI_q1, or_true, true_or, not_true_eq_false, not_false_eq_true, nI_l, ge64, Nat.lt_irrefl, Nat.add_sub_cancel, Nat.not_lt_zero, lN_0, lN_1e4, lN_1e6, lN_1e3, lN_add, lN_mul, lN_ltI, lN_leI, lN_eqI, lN_i, lcE, lcLe, lcLt, lN_div]
    refine d185 (ht.t9 (by omega)).1.1.1.1 (by omega) (by omega) ?_
    exact (q _ ((Out.refl _ _ _).I (by omega) (by omega)) ⟨L, M, hx'⟩)
def aNearest (st : St) (x y : Int32) : Int32 × St := aQ (inN x (cn st 5) && inN y (cn st 0)) st (eN ((nrK (ldo st) (cl x) (cl y) (nOf (ldo st))).map Prod.fst))
theorem p209 {x y : Int32} {K : Int32 → ax_M → Prop} (hx : X μ st) (q : ∀ μ', Out 64 332 μ μ' → X μ' (aNearest st x y).2 → K (aNearest st x y).1 μ') : ax_CI l G 209 [ax_r (some 64), ax_i x, ax_i y] μ K := by
  obtain ⟨L, M, hx⟩ := hx
  have hb := hx.bd
  refine ax_Ct.of (by decide) (Nat.le_of_ble_eq_true rfl) (sg209_0 l G _ 64 _ _ _ ?_)
  try simp (disch := omega) only [hx.all, wr_s, in_nI, clN, ti_z, ti_l, true_and, and_true, kI, zI, rI, kL, zL, rL, kR, zR, nnI, nnL, nnR, iL, iR, lI, lR, exi, exl, exv, eq_self, nI_add, nI_mul, nI_sub, nI_ltI, nI_leI, nI_eq, q0, q1, q2, q3, q4, q5, q6, q10, q100, br_Tr, br_Fa, iI_s, iI_n, bI_q0, bI_q1, or_true, true_or, not_true_eq_false, not_false_eq_true, nI_l, ge64, Nat.lt_irrefl, Nat.add_sub_cancel, Nat.not_lt_zero, lN_0, lN_1e4, lN_1e6, lN_1e3, lN_add, lN_mul, lN_ltI, lN_leI, lN_eqI, lN_i, lcE, lcLe, lcLt, lN_div]
  refine d83 hx ?_
  try simp (disch := omega) only [hx.all, wr_s, in_nI, clN, ti_z, ti_l, true_and, and_true, kI, zI, rI, kL, zL, rL, kR, zR, nnI, nnL, nnR, iL, iR, lI, lR, exi, exl, exv, eq_self, nI_add, nI_mul, nI_sub, nI_ltI, nI_leI, nI_eq, q0, q1, q2, q3, q4, q5, q6, q10, q100, br_Tr, br_Fa, iI_s, iI_n, bI_q0, bI_q1, or_true, true_or, not_true_eq_false, not_false_eq_true, nI_l, ge64, Nat.lt_irrefl, Nat.add_sub_cancel, Nat.not_lt_zero, lN_0, lN_1e4, lN_1e6, lN_1e3, lN_add, lN_mul, lN_ltI, lN_leI, lN_eqI, lN_i, lcE, lcLe, lcLt, lN_div]
  refine d3 hx.all.1.1 ?_
  unfold aNearest aQ at q
  have hx' := hx.q (b := inN x (cn st 5) && inN y (cn st 0))
  try simp (disch := omega) only [hx.all, hx'.all, wr_s, in_nI, clN, ti_z, ti_l, true_and, and_true, kI, zI, rI, kL, zL, rL, kR, zR, nnI, nnL, nnR, iL, iR, lI, lR, exi, exl, exv, eq_self, nI_add, nI_mul, nI_sub, nI_ltI, nI_leI, nI_eq, q0, q1, q2, q3, q4, q5, q6, q10, q100, br_Tr, br_Fa, iI_s, iI_n, bI_q0, bI_q1, or_true, true_or, not_true_eq_false, not_false_eq_true, nI_l, ge64, Nat.lt_irrefl, Nat.add_sub_cancel, Nat.not_lt_zero, lN_0, lN_1e4, lN_1e6, lN_1e3, lN_add, lN_mul, lN_ltI, lN_leI, lN_eqI, lN_i, lcE, lcLe, lcLt, lN_div]
  cases hc : (inN x (cn st 5) && inN y (cn st 0))
  · rw [hc] at q hx'
    exact ax_brt rfl (q _ ((Out.refl _ _ _).I (by omega) (by omega)) ⟨L, M, hx'⟩)
  · rw [hc] at q hx'
    simp only [Bool.and_eq_true] at hc
    obtain ⟨h, hh, rfl⟩ := inN_t (by omega) hc.1
    obtain ⟨m, hm, rfl⟩ := inN_t (by omega) hc.2
    obtain ⟨ht, he⟩ := hx.tn hh
    have hba := ht.bd
    rw [cl_nI (by omega), cl_nI (by omega)] at q
    refine ax_brf (by decide) ?_
    try simp (disch := omega) only [hx.all, wr_s, in_nI, clN, ti_z, ti_l, true_and, and_true, kI, zI, rI, kL, zL, rL, kR, zR, nnI, nnL, nnR, iL, iR, lI, lR, exi, exl, exv, eq_self, nI_add, nI_mul, nI_sub, nI_ltI, nI_leI, nI_eq, q0, q1, q2, q3, q4, q5, q6, q10, q100, br_Tr, br_Fa, iI_s, iI_n, bI_q0, bI_q1, or_true, true_or, not_true_eq_false, not_false_eq_true, nI_l, ge64, Nat.lt_irrefl, Nat.add_sub_cancel, Nat.not_lt_zero, lN_0, lN_1e4, lN_1e6, lN_1e3, lN_add, lN_mul, lN_ltI, lN_leI, lN_eqI, lN_i, lcE, lcLe, lcLt, lN_div]
    refine d197 (ht.t9 (by omega)) (by omega) (by omega) ?_
    exact (q _ ((Out.refl _ _ _).I (by omega) (by omega)) ⟨L, M, hx'⟩)
def aNumber (st : St) (x y : Int32) : Int32 × St := aQ (inN x (cn st 6) && inN y (cn st 0)) st (nI (num (ldo st) (cl x) (cl y)))
theorem p128 {x y : Int32} {K : Int32 → ax_M → Prop} (hx : X μ st) (q : ∀ μ', Out 64 332 μ μ' → X μ' (aNumber st x y).2 → K (aNumber st x y).1 μ') : ax_CI l G 128 [ax_r (some 64), ax_i x, ax_i y] μ K := by
  obtain ⟨L, M, hx⟩ := hx
  have hb := hx.bd
  refine ax_Ct.of (by decide) (Nat.le_of_ble_eq_true rfl) (sg128_0 l G _ 64 _ _ _ ?_)
  try simp (disch := omega) only [hx.all, wr_s, in_nI, clN, ti_z, ti_l, true_and, and_true, kI, zI, rI, kL, zL, rL, kR, zR, nnI, nnL, nnR, iL, iR, lI, lR, exi, exl, exv, eq_self, nI_add, nI_mul, nI_sub, nI_ltI, nI_leI, nI_eq, q0, q1, q2, q3, q4, q5, q6, q10, q100, br_Tr, br_Fa, iI_s, iI_n, bI_q0, bI_q1, or_true, true_or, not_true_eq_false, not_false_eq_true, nI_l, ge64, Nat.lt_irrefl, Nat.add_sub_cancel, Nat.not_lt_zero, lN_0, lN_1e4, lN_1e6, lN_1e3, lN_add, lN_mul, lN_ltI, lN_leI, lN_eqI, lN_i, lcE, lcLe, lcLt, lN_div]
  refine d84 hx ?_
  try simp (disch := omega) only [hx.all, wr_s, in_nI, clN, ti_z, ti_l, true_and, and_true, kI, zI, rI, kL, zL, rL, kR, zR, nnI, nnL, nnR, iL, iR, lI, lR, exi, exl, exv, eq_self, nI_add, nI_mul, nI_sub, nI_ltI, nI_leI, nI_eq, q0, q1, q2, q3, q4, q5, q6, q10, q100, br_Tr, br_Fa, iI_s, iI_n, bI_q0, bI_q1, or_true, true_or, not_true_eq_false, not_false_eq_true, nI_l, ge64, Nat.lt_irrefl, Nat.add_sub_cancel, Nat.not_lt_zero, lN_0, lN_1e4, lN_1e6, lN_1e3, lN_add, lN_mul, lN_ltI, lN_leI, lN_eqI, lN_i, lcE, lcLe, lcLt, lN_div]
  refine d3 hx.all.1.1 ?_
  unfold aNumber aQ at q
  have hx' := hx.q (b := inN x (cn st 6) && inN y (cn st 0))
  try simp (disch := omega) only [hx.all, hx'.all, wr_s, in_nI, clN, ti_z, ti_l, true_and, and_true, kI, zI, rI, kL, zL, rL, kR, zR, nnI, nnL, nnR, iL, iR, lI, lR, exi, exl, exv, eq_self, nI_add, nI_mul, nI_sub, nI_ltI, nI_leI, nI_eq, q0, q1, q2, q3, q4, q5, q6, q10, q100, br_Tr, br_Fa, iI_s, iI_n, bI_q0, bI_q1, or_true, true_or, not_true_eq_false, not_false_eq_true, nI_l, ge64, Nat.lt_irrefl, Nat.add_sub_cancel, Nat.not_lt_zero, lN_0, lN_1e4, lN_1e6, lN_1e3, lN_add, lN_mul, lN_ltI, lN_leI, lN_eqI, lN_i, lcE, lcLe, lcLt, lN_div]
  cases hc : (inN x (cn st 6) && inN y (cn st 0))
  · rw [hc] at q hx'
    exact ax_brt rfl (q _ ((Out.refl _ _ _).I (by omega) (by omega)) ⟨L, M, hx'⟩)
  · rw [hc] at q hx'
    simp only [Bool.and_eq_true] at hc
    obtain ⟨h, hh, rfl⟩ := inN_t (by omega) hc.1
    obtain ⟨m, hm, rfl⟩ := inN_t (by omega) hc.2
    obtain ⟨ht, he⟩ := hx.tn hh
    have hba := ht.bd
    rw [cl_nI (by omega), cl_nI (by omega)] at q
    refine ax_brf (by decide) ?_
    try simp (disch := omega) only [hx.all, wr_s, in_nI, clN, ti_z, ti_l, true_and, and_true, kI, zI, rI, kL, zL, rL, kR, zR, nnI, nnL, nnR, iL, iR, lI, lR, exi, exl, exv, eq_self, nI_add, nI_mul, nI_sub, nI_ltI, nI_leI, nI_eq, q0, q1, q2, q3, q4, q5, q6, q10, q100, br_Tr, br_Fa, iI_s, iI_n, bI_q0, bI_q1, or_true, true_or, not_true_eq_false, not_false_eq_true, nI_l, ge64, Nat.lt_irrefl, Nat.add_sub_cancel, Nat.not_lt_zero, lN_0, lN_1e4, lN_1e6, lN_1e3, lN_add, lN_mul, lN_ltI, lN_leI, lN_eqI, lN_i, lcE, lcLe, lcLt, lN_div]
    have ht9 := ht.t9 (v := nI (!true).toNat) (by omega)
    try simp (disch := omega) only [ht.1.1.1.1.1.2.1.all, ht.1.1.1.1.1.2.2.1, ht.1.1.1.1.1.2.2.2.1.1.all, ht.1.1.1.1.1.2.2.2.1.all, ht.1.1.1.1.tab, ht.1.1.1.2, ht.1.1.2, ht.1.2.1.all, ht.1.2.2.1, ht.2, wr_s, in_nI, clN, ti_z, ti_l, true_and, and_true, kI, zI, rI, kL, zL, rL, kR, zR, nnI, nnL, nnR, iL, iR, lI, lR, exi, exl, exv, eq_self, nI_add, nI_mul, nI_sub, nI_ltI, nI_leI, nI_eq, q0, q1, q2, q3, q4, q5, q6, q10, q100, br_Tr, br_Fa, iI_s, iI_n, bI_q0, bI_q1, or_true, true_or, not_true_eq_false, not_false_eq_true, nI_l, ge64, Nat.lt_irrefl, Nat.add_sub_cancel, Nat.not_lt_zero, lN_0, lN_1e4, lN_1e6, lN_1e3, lN_add, lN_mul, lN_ltI, lN_leI, lN_eqI, lN_i, lcE, lcLe, lcLt, lN_div]
    exact (q _ ((Out.refl _ _ _).I (by omega) (by omega)) ⟨L, M, hx'⟩)
def aPension (st : St) (x y z : Int32) : Int32 × St := aQ ((inN y (cn st 6) && inN z (cn st 0)) && inN x (cn st 5)) st (nI (pen (ldo st) (cl x) (cl y) (cl z)))
theorem p129 {x y z : Int32} {K : Int32 → ax_M → Prop} (hx : X μ st) (q : ∀ μ', Out 64 332 μ μ' → X μ' (aPension st x y z).2 → K (aPension st x y z).1 μ') : ax_CI l G 129 [ax_r (some 64), ax_i x, ax_i y, ax_i z] μ K := by
  obtain ⟨L, M, hx⟩ := hx
  have hb := hx.bd
  unfold aPension aQ at q
  refine ax_Ct.of (by decide) (Nat.le_of_ble_eq_true rfl) (sg129_0 l G _ 64 _ _ _ _ ?_)
  try simp (disch := omega) only [hx.all, wr_s, in_nI, clN, ti_z, ti_l, true_and, and_true, kI, zI, rI, kL, zL, rL, kR, zR, nnI, nnL, nnR, iL, iR, lI, lR, exi, exl, exv, eq_self, nI_add, nI_mul, nI_sub, nI_ltI, nI_leI, nI_eq, q0, q1, q2, q3, q4, q5, q6, q10, q100, br_Tr, br_Fa, iI_s, iI_n, bI_q0, bI_q1, or_true, true_or, not_true_eq_false, not_false_eq_true, nI_l, ge64, Nat.lt_irrefl, Nat.add_sub_cancel, Nat.not_lt_zero, lN_0, lN_1e4, lN_1e6, lN_1e3, lN_add, lN_mul, lN_ltI, lN_leI, lN_eqI, lN_i, lcE, lcLe, lcLt, lN_div]
  refine d84 hx ?_
  try simp (disch := omega) only [hx.all, wr_s, in_nI, clN, ti_z, ti_l, true_and, and_true, kI, zI, rI, kL, zL, rL, kR, zR, nnI, nnL, nnR, iL, iR, lI, lR, exi, exl, exv, eq_self, nI_add, nI_mul, nI_sub, nI_ltI, nI_leI, nI_eq, q0, q1, q2, q3, q4, q5, q6, q10, q100, br_Tr, br_Fa, iI_s, iI_n, bI_q0, bI_q1, or_true, true_or, not_true_eq_false, not_false_eq_true, nI_l, ge64, Nat.lt_irrefl, Nat.add_sub_cancel, Nat.not_lt_zero, lN_0, lN_1e4, lN_1e6, lN_1e3, lN_add, lN_mul, lN_ltI, lN_leI, lN_eqI, lN_i, lcE, lcLe, lcLt, lN_div]
  cases h1 : (inN y (cn st 6) && inN z (cn st 0))
  · rw [h1] at q
    refine ax_brt rfl ?_
    refine d3 (b := false) hx.all.1.1 ?_
    exact ax_brt rfl (q _ ((Out.refl _ _ _).I (by omega) (by omega)) ⟨L, M, hx.q (b := false)⟩)
  · rw [h1] at q
    refine ax_brf (by decide) ?_
    refine d21 hx.all.2.1.2.2.2.2.1 hx.all.2.2.2.2.2.2.2.2.1 ?_
    try simp (disch := omega) only [hx.all, wr_s, in_nI, clN, ti_z, ti_l, true_and, and_true, kI, zI, rI, kL, zL, rL, kR, zR, nnI, nnL, nnR, iL, iR, lI, lR, exi, exl, exv, eq_self, nI_add, nI_mul, nI_sub, nI_ltI, nI_leI, nI_eq, q0, q1, q2, q3, q4, q5, q6, q10, q100, br_Tr, br_Fa, iI_s, iI_n, bI_q0, bI_q1, or_true, true_or, not_true_eq_false, not_false_eq_true, nI_l, ge64, Nat.lt_irrefl, Nat.add_sub_cancel, Nat.not_lt_zero, lN_0, lN_1e4, lN_1e6, lN_1e3, lN_add, lN_mul, lN_ltI, lN_leI, lN_eqI, lN_i, lcE, lcLe, lcLt, lN_div]
    cases h2 : inN x (cn st 5)
    · rw [h2] at q
      refine ax_brt rfl ?_
      refine d3 (b := false) hx.all.1.1 ?_
      exact ax_brt rfl (q _ ((Out.refl _ _ _).I (by omega) (by omega)) ⟨L, M, hx.q (b := false)⟩)
    · rw [h2] at q
      have hx' := hx.q (b := true)
      refine ax_brf (by decide) ?_
      refine d3 (b := true) hx.all.1.1 ?_
      refine ax_brf (by decide) ?_
      simp only [Bool.and_eq_true] at h1
      obtain ⟨o, ho, rfl⟩ := inN_t (by omega) h1.1
      obtain ⟨m, hm, rfl⟩ := inN_t (by omega) h1.2
      obtain ⟨h, hh, rfl⟩ := inN_t (by omega) h2
      obtain ⟨ht, he⟩ := hx.tn hh
      have hba := ht.bd
      rw [cl_nI (by omega), cl_nI (by omega), cl_nI (by omega)] at q
      have ht9 := ht.t9 (v := nI (!true).toNat) (by omega)
      try simp (disch := omega) only [hx.all, ht.1.1.1.1.1.2.1.all, ht.1.1.1.1.1.2.2.1, ht.1.1.1.1.1.2.2.2.1.1.all, ht.1.1.1.1.1.2.2.2.1.all, ht.1.1.1.1.tab, ht.1.1.1.2, ht.1.1.2, ht.1.2.1.all, ht.1.2.2.1, ht.2, wr_s, in_nI, clN, ti_z, ti_l, true_and, and_true, kI, zI, rI, kL, zL, rL, kR, zR, nnI, nnL, nnR, iL, iR, lI, lR, exi, exl, exv, eq_self, nI_add, nI_mul, nI_sub, nI_ltI, nI_leI, nI_eq, q0, q1, q2, q3, q4, q5, q6, q10, q100, br_Tr, br_Fa, iI_s, iI_n, bI_q0, bI_q1, or_true, true_or, not_true_eq_false, not_false_eq_true, nI_l, ge64, Nat.lt_irrefl, Nat.add_sub_cancel, Nat.not_lt_zero, lN_0, lN_1e4, lN_1e6, lN_1e3, lN_add, lN_mul, lN_ltI, lN_leI, lN_eqI, lN_i, lcE, lcLe, lcLt, lN_div]
      refine d40 ht9 (by omega) (by omega) (by omega) ?_
      exact (q _ ((Out.refl _ _ _).I (by omega) (by omega)) ⟨L, M, hx'⟩)
def aLacks (st : St) (x y z : Int32) : Int32 × St := aQ ((inN y (cn st 6) && inN z (cn st 0)) && inN x (cn st 5)) st (nI (lck (ldo st) (cl x) (cl y) (cl z)))
theorem p194 {x y z : Int32} {K : Int32 → ax_M → Prop} (hx : X μ st) (q : ∀ μ', Out 64 332 μ μ' → X μ' (aLacks st x y z).2 → K (aLacks st x y z).1 μ') : ax_CI l G 194 [ax_r (some 64), ax_i x, ax_i y, ax_i z] μ K := by
  obtain ⟨L, M, hx⟩ := hx
  have hb := hx.bd
  unfold aLacks aQ at q
  refine ax_Ct.of (by decide) (Nat.le_of_ble_eq_true rfl) (sg194_0 l G _ 64 _ _ _ _ ?_)
  try simp (disch := omega) only [hx.all, wr_s, in_nI, clN, ti_z, ti_l, true_and, and_true, kI, zI, rI, kL, zL, rL, kR, zR, nnI, nnL, nnR, iL, iR, lI, lR, exi, exl, exv, eq_self, nI_add, nI_mul, nI_sub, nI_ltI, nI_leI, nI_eq, q0, q1, q2, q3, q4, q5, q6, q10, q100, br_Tr, br_Fa, iI_s, iI_n, bI_q0, bI_q1, or_true, true_or, not_true_eq_false, not_false_eq_true, nI_l, ge64, Nat.lt_irrefl, Nat.add_sub_cancel, Nat.not_lt_zero, lN_0, lN_1e4, lN_1e6, lN_1e3, lN_add, lN_mul, lN_ltI, lN_leI, lN_eqI, lN_i, lcE, lcLe, lcLt, lN_div]
  refine d84 hx ?_
  try simp (disch := omega) only [hx.all, wr_s, in_nI, clN, ti_z, ti_l, true_and, and_true, kI, zI, rI, kL, zL, rL, kR, zR, nnI, nnL, nnR, iL, iR, lI, lR, exi, exl, exv, eq_self, nI_add, nI_mul, nI_sub, nI_ltI, nI_leI, nI_eq, q0, q1, q2, q3, q4, q5, q6, q10, q100, br_Tr, br_Fa, iI_s, iI_n, bI_q0, bI_q1, or_true, true_or, not_true_eq_false, not_false_eq_true, nI_l, ge64, Nat.lt_irrefl, Nat.add_sub_cancel, Nat.not_lt_zero, lN_0, lN_1e4, lN_1e6, lN_1e3, lN_add, lN_mul, lN_ltI, lN_leI, lN_eqI, lN_i, lcE, lcLe, lcLt, lN_div]
  cases h1 : (inN y (cn st 6) && inN z (cn st 0))
  · rw [h1] at q
    refine ax_brt rfl ?_
    refine d3 (b := false) hx.all.1.1 ?_
    exact ax_brt rfl (q _ ((Out.refl _ _ _).I (by omega) (by omega)) ⟨L, M, hx.q (b := false)⟩)
  · rw [h1] at q
    refine ax_brf (by decide) ?_
    refine d21 hx.all.2.1.2.2.2.2.1 hx.all.2.2.2.2.2.2.2.2.1 ?_
    try simp (disch := omega) only [hx.all, wr_s, in_nI, clN, ti_z, ti_l, true_and, and_true, kI, zI, rI, kL, zL, rL, kR, zR, nnI, nnL, nnR, iL, iR, lI, lR, exi, exl, exv, eq_self, nI_add, nI_mul, nI_sub, nI_ltI, nI_leI, nI_eq, q0, q1, q2, q3, q4, q5, q6, q10, q100, br_Tr, br_Fa, iI_s, iI_n, bI_q0, bI_q1, or_true, true_or, not_true_eq_false, not_false_eq_true, nI_l, ge64, Nat.lt_irrefl, Nat.add_sub_cancel, Nat.not_lt_zero, lN_0, lN_1e4, lN_1e6, lN_1e3, lN_add, lN_mul, lN_ltI, lN_leI, lN_eqI, lN_i, lcE, lcLe, lcLt, lN_div]
    cases h2 : inN x (cn st 5)
    · rw [h2] at q
      refine ax_brt rfl ?_
      refine d3 (b := false) hx.all.1.1 ?_
      exact ax_brt rfl (q _ ((Out.refl _ _ _).I (by omega) (by omega)) ⟨L, M, hx.q (b := false)⟩)
    · rw [h2] at q
      have hx' := hx.q (b := true)
      refine ax_brf (by decide) ?_
      refine d3 (b := true) hx.all.1.1 ?_
      refine ax_brf (by decide) ?_
      simp only [Bool.and_eq_true] at h1
      obtain ⟨o, ho, rfl⟩ := inN_t (by omega) h1.1
      obtain ⟨m, hm, rfl⟩ := inN_t (by omega) h1.2
      obtain ⟨h, hh, rfl⟩ := inN_t (by omega) h2
      obtain ⟨ht, he⟩ := hx.tn hh
      have hba := ht.bd
      rw [cl_nI (by omega), cl_nI (by omega), cl_nI (by omega)] at q
      have ht9 := ht.t9 (v := nI (!true).toNat) (by omega)
      try simp (disch := omega) only [hx.all, ht.1.1.1.1.1.2.1.all, ht.1.1.1.1.1.2.2.1, ht.1.1.1.1.1.2.2.2.1.1.all, ht.1.1.1.1.1.2.2.2.1.all, ht.1.1.1.1.tab, ht.1.1.1.2, ht.1.1.2, ht.1.2.1.all, ht.1.2.2.1, ht.2, wr_s, in_nI, clN, ti_z, ti_l, true_and, and_true, kI, zI, rI, kL, zL, rL, kR, zR, nnI, nnL, nnR, iL, iR, lI, lR, exi, exl, exv, eq_self, nI_add, nI_mul, nI_sub, nI_ltI, nI_leI, nI_eq, q0, q1, q2, q3, q4, q5, q6, q10, q100, br_Tr, br_Fa, iI_s, iI_n, bI_q0, bI_q1, or_true, true_or, not_true_eq_false, not_false_eq_true, nI_l, ge64, Nat.lt_irrefl, Nat.add_sub_cancel, Nat.not_lt_zero, lN_0, lN_1e4, lN_1e6, lN_1e3, lN_add, lN_mul, lN_ltI, lN_leI, lN_eqI, lN_i, lcE, lcLe, lcLt, lN_div]
      refine d187 ht9 (by omega) (by omega) (by omega) ?_
      exact (q _ ((Out.refl _ _ _).I (by omega) (by omega)) ⟨L, M, hx'⟩)
def aBeside (st : St) (x y z : Int32) : Int32 × St := cond ((inN x (cn st 6) && inN z (cn st 0)) && inN y (cn st 5)) (nI (num (ldo st) (cl x) (cl z)) - nI (liv (ldo st) (cl y) (cl z)), sT st 0) (-1000000000, sT st 1)
theorem p193 {x y z : Int32} {K : Int32 → ax_M → Prop} (hx : X μ st) (q : ∀ μ', Out 64 332 μ μ' → X μ' (aBeside st x y z).2 → K (aBeside st x y z).1 μ') : ax_CI l G 193 [ax_r (some 64), ax_i x, ax_i y, ax_i z] μ K := by
  obtain ⟨L, M, hx⟩ := hx
  have hb := hx.bd
  unfold aBeside at q
  refine ax_Ct.of (by decide) (Nat.le_of_ble_eq_true rfl) (sg193_0 l G _ 64 _ _ _ _ ?_)
  try simp (disch := omega) only [hx.all, wr_s, in_nI, clN, ti_z, ti_l, true_and, and_true, kI, zI, rI, kL, zL, rL, kR, zR, nnI, nnL, nnR, iL, iR, lI, lR, exi, exl, exv, eq_self, nI_add, nI_mul, nI_sub, nI_ltI, nI_leI, nI_eq, q0, q1, q2, q3, q4, q5, q6, q10, q100, br_Tr, br_Fa, iI_s, iI_n, bI_q0, bI_q1, or_true, true_or, not_true_eq_false, not_false_eq_true, nI_l, ge64, Nat.lt_irrefl, Nat.add_sub_cancel, Nat.not_lt_zero, lN_0, lN_1e4, lN_1e6, lN_1e3, lN_add, lN_mul, lN_ltI, lN_leI, lN_eqI, lN_i, lcE, lcLe, lcLt, lN_div]
  refine d84 hx ?_
  try simp (disch := omega) only [hx.all, wr_s, in_nI, clN, ti_z, ti_l, true_and, and_true, kI, zI, rI, kL, zL, rL, kR, zR, nnI, nnL, nnR, iL, iR, lI, lR, exi, exl, exv, eq_self, nI_add, nI_mul, nI_sub, nI_ltI, nI_leI, nI_eq, q0, q1, q2, q3, q4, q5, q6, q10, q100, br_Tr, br_Fa, iI_s, iI_n, bI_q0, bI_q1, or_true, true_or, not_true_eq_false, not_false_eq_true, nI_l, ge64, Nat.lt_irrefl, Nat.add_sub_cancel, Nat.not_lt_zero, lN_0, lN_1e4, lN_1e6, lN_1e3, lN_add, lN_mul, lN_ltI, lN_leI, lN_eqI, lN_i, lcE, lcLe, lcLt, lN_div]
  cases h1 : (inN x (cn st 6) && inN z (cn st 0))
  · rw [h1] at q
    refine ax_brt rfl ?_
    refine d3 (b := false) hx.all.1.1 ?_
    exact ax_brt rfl (q _ ((Out.refl _ _ _).I (by omega) (by omega)) ⟨L, M, hx.q (b := false)⟩)
  · rw [h1] at q
    refine ax_brf (by decide) ?_
    refine d21 hx.all.2.1.2.2.2.2.1 hx.all.2.2.2.2.2.2.2.2.1 ?_
    try simp (disch := omega) only [hx.all, wr_s, in_nI, clN, ti_z, ti_l, true_and, and_true, kI, zI, rI, kL, zL, rL, kR, zR, nnI, nnL, nnR, iL, iR, lI, lR, exi, exl, exv, eq_self, nI_add, nI_mul, nI_sub, nI_ltI, nI_leI, nI_eq, q0, q1, q2, q3, q4, q5, q6, q10, q100, br_Tr, br_Fa, iI_s, iI_n, bI_q0, bI_q1, or_true, true_or, not_true_eq_false, not_false_eq_true, nI_l, ge64, Nat.lt_irrefl, Nat.add_sub_cancel, Nat.not_lt_zero, lN_0, lN_1e4, lN_1e6, lN_1e3, lN_add, lN_mul, lN_ltI, lN_leI, lN_eqI, lN_i, lcE, lcLe, lcLt, lN_div]
    cases h2 : inN y (cn st 5)
    · rw [h2] at q
      refine ax_brt rfl ?_
      refine d3 (b := false) hx.all.1.1 ?_
      exact ax_brt rfl (q _ ((Out.refl _ _ _).I (by omega) (by omega)) ⟨L, M, hx.q (b := false)⟩)
    · rw [h2] at q
      have hx' := hx.q (b := true)
      refine ax_brf (by decide) ?_
      refine d3 (b := true) hx.all.1.1 ?_
      refine ax_brf (by decide) ?_
      simp only [Bool.and_eq_true] at h1
      obtain ⟨o, ho, rfl⟩ := inN_t (by omega) h1.1
      obtain ⟨m, hm, rfl⟩ := inN_t (by omega) h1.2
      obtain ⟨h, hh, rfl⟩ := inN_t (by omega) h2
      obtain ⟨ht, he⟩ := hx.tn hh
      have hba := ht.bd
      rw [cl_nI (by omega), cl_nI (by omega), cl_nI (by omega)] at q
      have ht9 := ht.t9 (v := nI (!true).toNat) (by omega)
      try simp (disch := omega) only [hx.all, ht.1.1.1.1.1.2.1.all, ht.1.1.1.1.1.2.2.1, ht.1.1.1.1.1.2.2.2.1.1.all, ht.1.1.1.1.1.2.2.2.1.all, ht.1.1.1.1.tab, ht.1.1.1.2, ht.1.1.2, ht.1.2.1.all, ht.1.2.2.1, ht.2, wr_s, in_nI, clN, ti_z, ti_l, true_and, and_true, kI, zI, rI, kL, zL, rL, kR, zR, nnI, nnL, nnR, iL, iR, lI, lR, exi, exl, exv, eq_self, nI_add, nI_mul, nI_sub, nI_ltI, nI_leI, nI_eq, q0, q1, q2, q3, q4, q5, q6, q10, q100, br_Tr, br_Fa, iI_s, iI_n, bI_q0, bI_q1, or_true, true_or, not_true_eq_false, not_false_eq_true, nI_l, ge64, Nat.lt_irrefl, Nat.add_sub_cancel, Nat.not_lt_zero, lN_0, lN_1e4, lN_1e6, lN_1e3, lN_add, lN_mul, lN_ltI, lN_leI, lN_eqI, lN_i, lcE, lcLe, lcLt, lN_div]
      refine d185 ht9.1.1.1.1 (by omega) (by omega) ?_
      exact (q _ ((Out.refl _ _ _).I (by omega) (by omega)) ⟨L, M, hx'⟩)
def aGives (st : St) (x y z : Int32) : Int64 × St := cond ((inN x (cn st 6) && inN z (cn st 0)) && inN y (cn st 2)) (lN (pTh (ldo st) (cl x) (lsM (ldo st) (cl x) (cl z)) (cl z) (cl y)), sT st 0) (-1, sT st 1)
theorem p163 {x y z : Int32} {K : Int64 → ax_M → Prop} (hx : X μ st) (q : ∀ μ', Out 64 332 μ μ' → X μ' (aGives st x y z).2 → K (aGives st x y z).1 μ') : ax_CL l G 163 [ax_r (some 64), ax_i x, ax_i y, ax_i z] μ K := by
  obtain ⟨L, M, hx⟩ := hx
  have hb := hx.bd
  unfold aGives at q
  refine ax_Ct.of (by decide) (Nat.le_of_ble_eq_true rfl) (sg163_0 l G _ 64 _ _ _ _ ?_)
  try simp (disch := omega) only [hx.all, wr_s, in_nI, clN, ti_z, ti_l, true_and, and_true, kI, zI, rI, kL, zL, rL, kR, zR, nnI, nnL, nnR, iL, iR, lI, lR, exi, exl, exv, eq_self, nI_add, nI_mul, nI_sub, nI_ltI, nI_leI, nI_eq, q0, q1, q2, q3, q4, q5, q6, q10, q100, br_Tr, br_Fa, iI_s, iI_n, bI_q0, bI_q1, or_true, true_or, not_true_eq_false, not_false_eq_true, nI_l, ge64, Nat.lt_irrefl, Nat.add_sub_cancel, Nat.not_lt_zero, lN_0, lN_1e4, lN_1e6, lN_1e3, lN_add, lN_mul, lN_ltI, lN_leI, lN_eqI, lN_i, lcE, lcLe, lcLt, lN_div]
  refine d84 hx ?_
  try simp (disch := omega) only [hx.all, wr_s, in_nI, clN, ti_z, ti_l, true_and, and_true, kI, zI, rI, kL, zL, rL, kR, zR, nnI, nnL, nnR, iL, iR, lI, lR, exi, exl, exv, eq_self, nI_add, nI_mul, nI_sub, nI_ltI, nI_leI, nI_eq, q0, q1, q2, q3, q4, q5, q6, q10, q100, br_Tr, br_Fa, iI_s, iI_n, bI_q0, bI_q1, or_true, true_or, not_true_eq_false, not_false_eq_true, nI_l, ge64, Nat.lt_irrefl, Nat.add_sub_cancel, Nat.not_lt_zero, lN_0, lN_1e4, lN_1e6, lN_1e3, lN_add, lN_mul, lN_ltI, lN_leI, lN_eqI, lN_i, lcE, lcLe, lcLt, lN_div]
  cases h1 : (inN x (cn st 6) && inN z (cn st 0))
  · rw [h1] at q
    refine ax_brt rfl ?_
    refine d3 (b := false) hx.all.1.1 ?_
    exact ax_brt rfl (q _ ((Out.refl _ _ _).I (by omega) (by omega)) ⟨L, M, hx.q (b := false)⟩)
  · rw [h1] at q
    refine ax_brf (by decide) ?_
    refine d25 hx.all.2.1.2.2.2.2.1 hx.all.2.2.2.2.2.1 ?_
    try simp (disch := omega) only [hx.all, wr_s, in_nI, clN, ti_z, ti_l, true_and, and_true, kI, zI, rI, kL, zL, rL, kR, zR, nnI, nnL, nnR, iL, iR, lI, lR, exi, exl, exv, eq_self, nI_add, nI_mul, nI_sub, nI_ltI, nI_leI, nI_eq, q0, q1, q2, q3, q4, q5, q6, q10, q100, br_Tr, br_Fa, iI_s, iI_n, bI_q0, bI_q1, or_true, true_or, not_true_eq_false, not_false_eq_true, nI_l, ge64, Nat.lt_irrefl, Nat.add_sub_cancel, Nat.not_lt_zero, lN_0, lN_1e4, lN_1e6, lN_1e3, lN_add, lN_mul, lN_ltI, lN_leI, lN_eqI, lN_i, lcE, lcLe, lcLt, lN_div]
    cases h2 : inN y (cn st 2)
    · rw [h2] at q
      refine ax_brt rfl ?_
      refine d3 (b := false) hx.all.1.1 ?_
      exact ax_brt rfl (q _ ((Out.refl _ _ _).I (by omega) (by omega)) ⟨L, M, hx.q (b := false)⟩)
    · rw [h2] at q
      have hx' := hx.q (b := true)
      refine ax_brf (by decide) ?_
      refine d3 (b := true) hx.all.1.1 ?_
      refine ax_brf (by decide) ?_
      simp only [Bool.and_eq_true] at h1
      obtain ⟨o, ho, rfl⟩ := inN_t (by omega) h1.1
      obtain ⟨m, hm, rfl⟩ := inN_t (by omega) h1.2
      obtain ⟨h, hh, rfl⟩ := inN_t (by omega) h2
      obtain ⟨ht, he⟩ := hx.tn hh
      have hba := ht.bd
      rw [cl_nI (by omega), cl_nI (by omega), cl_nI (by omega)] at q
      have ht9 := ht.t9 (v := nI (!true).toNat) (by omega)
      try simp (disch := omega) only [hx.all, ht.1.1.1.1.1.2.1.all, ht.1.1.1.1.1.2.2.1, ht.1.1.1.1.1.2.2.2.1.1.all, ht.1.1.1.1.1.2.2.2.1.all, ht.1.1.1.1.tab, ht.1.1.1.2, ht.1.1.2, ht.1.2.1.all, ht.1.2.2.1, ht.2, wr_s, in_nI, clN, ti_z, ti_l, true_and, and_true, kI, zI, rI, kL, zL, rL, kR, zR, nnI, nnL, nnR, iL, iR, lI, lR, exi, exl, exv, eq_self, nI_add, nI_mul, nI_sub, nI_ltI, nI_leI, nI_eq, q0, q1, q2, q3, q4, q5, q6, q10, q100, br_Tr, br_Fa, iI_s, iI_n, bI_q0, bI_q1, or_true, true_or, not_true_eq_false, not_false_eq_true, nI_l, ge64, Nat.lt_irrefl, Nat.add_sub_cancel, Nat.not_lt_zero, lN_0, lN_1e4, lN_1e6, lN_1e3, lN_add, lN_mul, lN_ltI, lN_leI, lN_eqI, lN_i, lcE, lcLe, lcLt, lN_div]
      refine d39 ht9.1 (by omega) (by omega) ?_
      have hls := lsM_in (a := ldo st) (o := o) (m := m) (by omega)
      try simp (disch := omega) only [hx.all, ht.1.1.1.1.1.2.1.all, ht.1.1.1.1.1.2.2.1, ht.1.1.1.1.1.2.2.2.1.1.all, ht.1.1.1.1.1.2.2.2.1.all, ht.1.1.1.1.tab, ht.1.1.1.2, ht.1.1.2, ht.1.2.1.all, ht.1.2.2.1, ht.2, wr_s, in_nI, clN, ti_z, ti_l, true_and, and_true, kI, zI, rI, kL, zL, rL, kR, zR, nnI, nnL, nnR, iL, iR, lI, lR, exi, exl, exv, eq_self, nI_add, nI_mul, nI_sub, nI_ltI, nI_leI, nI_eq, q0, q1, q2, q3, q4, q5, q6, q10, q100, br_Tr, br_Fa, iI_s, iI_n, bI_q0, bI_q1, or_true, true_or, not_true_eq_false, not_false_eq_true, nI_l, ge64, Nat.lt_irrefl, Nat.add_sub_cancel, Nat.not_lt_zero, lN_0, lN_1e4, lN_1e6, lN_1e3, lN_add, lN_mul, lN_ltI, lN_leI, lN_eqI, lN_i, lcE, lcLe, lcLt, lN_div]
      refine d146 ht9.1 (by omega) (by omega) hls (by omega) ?_
      exact (q _ ((Out.refl _ _ _).I (by omega) (by omega)) ⟨L, M, hx'⟩)
end E2
