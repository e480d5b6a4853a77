section C6
variable {l : Launch} {G : ax_G} {μ : ax_M} {c L : Nat} {a : Ld}
theorem max0 {x y : Nat} (hx : x < 2 ^ 31) (hy : y < 2 ^ 31) : (if nI 0 < nI x - nI y then nI x - nI y else nI 0) = nI (x - y) := by
  rw [max_sub (by omega) hx hy, Nat.zero_max]
theorem d90 {h b p : Nat} {K : Int64 → ax_M → Prop} (hc : CB μ c L a) (hh : h < nHo a) (hm : b < nMo a) (hp : p < nMo a) (q : K (lN (cst a h b p)) μ) : ax_CL l G 90 [ax_r (some c), ax_i (nI h), ax_i (nI b), ax_i (nI p)] μ K := by
  have hb := hc.bd
  refine ax_Ct.of (by decide) (Nat.le_of_ble_eq_true rfl) (sg90_0 l G _ c _ _ _ _ ?_)
  refine up_to (P := fun g => (ax_Rw l G ax_h90 (ax_E G ax_h90 _) 6 [(0, ax_r (some c)), (1, ax_i (nI h)), (2, ax_i (nI b)), (3, ax_i (nI p)), (4, ax_l (lN (sumN (cst1 a h b p) g))), (6, ax_i (nI g))] [] 0 0 μ)) (nGr a) ?_ (fun g hg ih => ?_) 0 (Nat.zero_le _)
  · refine sg90_6 l G _ c _ _ _ _ _ _ ?_
    try simp (disch := omega) only [hc.1.1.2.1.all, hc.1.1.2.2.1, hc.1.1.2.2.2.1.1.all, hc.1.1.2.2.2.1.all, hc.1.tab, hc.2, wr_s, in_nI, clN, ti_z, ti_l, true_and, and_true, kI, zI, rI, kL, zL, rL, kR, zR, nnI, nnL, nnR, iL, iR, lI, lR, exi, exl, exv, eq_self, nI_add, nI_mul, nI_sub, nI_ltI, nI_leI, nI_eq, q0, q1, q2, q3, q4, q5, q6, q10, q100, br_Tr, br_Fa, iI_s, iI_n, bI_q0, bI_q1, or_true, true_or, not_true_eq_false, not_false_eq_true, nI_l, ge64, Nat.lt_irrefl, Nat.add_sub_cancel, Nat.not_lt_zero]
    exact q
  · have hbi := buy_in hc.1.1.1 hh (show g < 4 by omega) b
    refine sg90_6 l G _ c _ _ _ _ _ _ ?_
    try simp (disch := omega) only [hc.1.1.2.1.all, hc.1.1.2.2.1, hc.1.1.2.2.2.1.1.all, hc.1.1.2.2.2.1.all, hc.1.tab, hc.2, hg, wr_s, in_nI, clN, ti_z, ti_l, true_and, and_true, kI, zI, rI, kL, zL, rL, kR, zR, nnI, nnL, nnR, iL, iR, lI, lR, exi, exl, exv, eq_self, nI_add, nI_mul, nI_sub, nI_ltI, nI_leI, nI_eq, q0, q1, q2, q3, q4, q5, q6, q10, q100, br_Tr, br_Fa, iI_s, iI_n, bI_q0, bI_q1, or_true, true_or, not_true_eq_false, not_false_eq_true, nI_l, ge64, Nat.lt_irrefl, Nat.add_sub_cancel, Nat.not_lt_zero]
    refine d6 ?_
    unfold sumN cst1 at ih
    try simp (disch := omega) only [hc.1.1.2.1.all, hc.1.1.2.2.1, hc.1.1.2.2.2.1.1.all, hc.1.1.2.2.2.1.all, hc.1.tab, hc.2, wr_s, in_nI, clN, ti_z, ti_l, true_and, and_true, kI, zI, rI, kL, zL, rL, kR, zR, nnI, nnL, nnR, iL, iR, lI, lR, exi, exl, exv, eq_self, nI_add, nI_mul, nI_sub, nI_ltI, nI_leI, nI_eq, q0, q1, q2, q3, q4, q5, q6, q10, q100, br_Tr, br_Fa, iI_s, iI_n, bI_q0, bI_q1, or_true, true_or, not_true_eq_false, not_false_eq_true, nI_l, ge64, Nat.lt_irrefl, Nat.add_sub_cancel, Nat.not_lt_zero]
    cases hq : (buy a h g b).1 with
    | none =>
      rw [hq] at ih
      try simp (disch := omega) only [enc_none, neg2_neg, wr_s, in_nI, clN, ti_z, ti_l, true_and, and_true, kI, zI, rI, kL, zL, rL, kR, zR, nnI, nnL, nnR, iL, iR, lI, lR, exi, exl, exv, eq_self, nI_add, nI_mul, nI_sub, nI_ltI, nI_leI, nI_eq, q0, q1, q2, q3, q4, q5, q6, q10, q100, br_Tr, br_Fa, iI_s, iI_n, bI_q0, bI_q1, or_true, true_or, not_true_eq_false, not_false_eq_true, nI_l, ge64, Nat.lt_irrefl, Nat.add_sub_cancel, Nat.not_lt_zero]
      exact ih
    | some t =>
      rw [hq] at ih
      have ht := (hbi.1 t hq).1
      have h9 := hbi.2.1
      have hl := lst_le a t p
      have hpr := (stt_in hc.1.1.1 ht (lst a t p)).2.2
      try simp (disch := omega) only [enc_some, hc.1.1.2.1.all, hc.1.1.2.2.1, hc.1.1.2.2.2.1.1.all, hc.1.1.2.2.2.1.all, hc.1.tab, hc.2, lN_mul, lN_add, wr_s, in_nI, clN, ti_z, ti_l, true_and, and_true, kI, zI, rI, kL, zL, rL, kR, zR, nnI, nnL, nnR, iL, iR, lI, lR, exi, exl, exv, eq_self, nI_add, nI_mul, nI_sub, nI_ltI, nI_leI, nI_eq, q0, q1, q2, q3, q4, q5, q6, q10, q100, br_Tr, br_Fa, iI_s, iI_n, bI_q0, bI_q1, or_true, true_or, not_true_eq_false, not_false_eq_true, nI_l, ge64, Nat.lt_irrefl, Nat.add_sub_cancel, Nat.not_lt_zero]
      exact ih
theorem d96 {h m : Nat} {K : Int32 → ax_M → Prop} (hc : CB μ c L a) (hh : h < nHo a) (hm : m < nMo a) (q : K (nI (mis a h m)) μ) : ax_CI l G 96 [ax_r (some c), ax_i (nI h), ax_i (nI m)] μ K := by
  have hb := hc.bd
  refine ax_Ct.of (by decide) (Nat.le_of_ble_eq_true rfl) (sg96_0 l G _ c _ _ _ ?_)
  refine up_to (P := fun g => (ax_Rw l G ax_h96 (ax_E G ax_h96 _) 5 [(0, ax_r (some c)), (1, ax_i (nI h)), (2, ax_i (nI m)), (3, ax_i (nI (sumN (mis1 a h m) g))), (4, ax_i (nI g))] [] 0 0 μ)) (nGr a) ?_ (fun g hg ih => ?_) 0 (Nat.zero_le _)
  · refine sg96_5 l G _ c _ _ _ _ _ ?_
    try simp (disch := omega) only [hc.1.1.2.1.all, hc.1.1.2.2.1, hc.1.1.2.2.2.1.1.all, hc.1.1.2.2.2.1.all, hc.1.tab, hc.2, wr_s, in_nI, clN, ti_z, ti_l, true_and, and_true, kI, zI, rI, kL, zL, rL, kR, zR, nnI, nnL, nnR, iL, iR, lI, lR, exi, exl, exv, eq_self, nI_add, nI_mul, nI_sub, nI_ltI, nI_leI, nI_eq, q0, q1, q2, q3, q4, q5, q6, q10, q100, br_Tr, br_Fa, iI_s, iI_n, bI_q0, bI_q1, or_true, true_or, not_true_eq_false, not_false_eq_true, nI_l, ge64, Nat.lt_irrefl, Nat.add_sub_cancel, Nat.not_lt_zero]
    exact q
  · have hbi := buy_in hc.1.1.1 hh (show g < 4 by omega) m
    have hw := (hc.1.1.1.hw hh).2.2 g (by omega)
    refine sg96_5 l G _ c _ _ _ _ _ ?_
    try simp (disch := omega) only [hc.1.1.2.1.all, hc.1.1.2.2.1, hc.1.1.2.2.2.1.1.all, hc.1.1.2.2.2.1.all, hc.1.tab, hc.2, hg, wr_s, in_nI, clN, ti_z, ti_l, true_and, and_true, kI, zI, rI, kL, zL, rL, kR, zR, nnI, nnL, nnR, iL, iR, lI, lR, exi, exl, exv, eq_self, nI_add, nI_mul, nI_sub, nI_ltI, nI_leI, nI_eq, q0, q1, q2, q3, q4, q5, q6, q10, q100, br_Tr, br_Fa, iI_s, iI_n, bI_q0, bI_q1, or_true, true_or, not_true_eq_false, not_false_eq_true, nI_l, ge64, Nat.lt_irrefl, Nat.add_sub_cancel, Nat.not_lt_zero]
    refine d6 ?_
    unfold sumN mis1 at ih
    try simp (disch := omega) only [hc.1.1.2.1.all, hc.1.1.2.2.1, hc.1.1.2.2.2.1.1.all, hc.1.1.2.2.2.1.all, hc.1.tab, hc.2, wr_s, in_nI, clN, ti_z, ti_l, true_and, and_true, kI, zI, rI, kL, zL, rL, kR, zR, nnI, nnL, nnR, iL, iR, lI, lR, exi, exl, exv, eq_self, nI_add, nI_mul, nI_ltI, nI_leI, nI_eq, q0, q1, q2, q3, q4, q5, q6, q10, q100, br_Tr, br_Fa, iI_s, iI_n, bI_q0, bI_q1, or_true, true_or, not_true_eq_false, not_false_eq_true, nI_l, ge64, Nat.lt_irrefl, Nat.add_sub_cancel, Nat.not_lt_zero]
    cases hq : (buy a h g m).1 with
    | none =>
      rw [hq] at ih
      try simp (disch := omega) only [enc_none, neg2_neg, max0, wr_s, in_nI, clN, ti_z, ti_l, true_and, and_true, kI, zI, rI, kL, zL, rL, kR, zR, nnI, nnL, nnR, iL, iR, lI, lR, exi, exl, exv, eq_self, nI_add, nI_mul, nI_ltI, nI_leI, nI_eq, q0, q1, q2, q3, q4, q5, q6, q10, q100, br_Tr, br_Fa, iI_s, iI_n, bI_q0, bI_q1, or_true, true_or, not_true_eq_false, not_false_eq_true, nI_l, ge64, Nat.lt_irrefl, Nat.add_sub_cancel, Nat.not_lt_zero]
      exact ih
    | some t =>
      rw [hq] at ih
      have ht := (hbi.1 t hq).1
      have h9 := hbi.2.1
      have hv := worth_in hc.1.1.1 ht m
      have hx : (buy a h g m).2 * (Sz a t m * Sf a t m) ≤ 99 * 199800 := Nat.mul_le_mul h9 hv.2
      try simp (disch := omega) only [enc_some, hc.1.1.2.1.all, hc.1.1.2.2.1, hc.1.1.2.2.2.1.1.all, hc.1.1.2.2.2.1.all, hc.1.tab, hc.2, Nat.mul_assoc, max0, wr_s, in_nI, clN, ti_z, ti_l, true_and, and_true, kI, zI, rI, kL, zL, rL, kR, zR, nnI, nnL, nnR, iL, iR, lI, lR, exi, exl, exv, eq_self, nI_add, nI_mul, nI_ltI, nI_leI, nI_eq, q0, q1, q2, q3, q4, q5, q6, q10, q100, br_Tr, br_Fa, iI_s, iI_n, bI_q0, bI_q1, or_true, true_or, not_true_eq_false, not_false_eq_true, nI_l, ge64, Nat.lt_irrefl, Nat.add_sub_cancel, Nat.not_lt_zero]
      exact ih
theorem d170 {h m : Nat} {K : Int32 → ax_M → Prop} (hc : CT μ c L a) (hh : h < nHo a) (hm : m < nMo a) (q : K (nI (tru a h m)) μ) : ax_CI l G 170 [ax_r (some c), ax_i (nI h), ax_i (nI m)] μ K := by
  have hb := hc.bd
  refine ax_Ct.of (by decide) (Nat.le_of_ble_eq_true rfl) (sg170_0 l G _ c _ _ _ ?_)
  refine up_to (P := fun g => (ax_Rw l G ax_h170 (ax_E G ax_h170 _) 5 [(0, ax_r (some c)), (1, ax_i (nI h)), (2, ax_i (nI m)), (3, ax_i (nI (sumN (tru1 a h m) g))), (4, ax_i (nI g))] [] 0 0 μ)) (nGr a) ?_ (fun g hg ih => ?_) 0 (Nat.zero_le _)
  · refine sg170_5 l G _ c _ _ _ _ _ ?_
    try simp (disch := omega) only [hc.1.2.1.all, hc.1.2.2.1, hc.1.2.2.2.1.1.all, hc.1.2.2.2.1.all, hc.tab, wr_s, in_nI, clN, ti_z, ti_l, true_and, and_true, kI, zI, rI, kL, zL, rL, kR, zR, nnI, nnL, nnR, iL, iR, lI, lR, exi, exl, exv, eq_self, nI_add, nI_mul, nI_sub, nI_ltI, nI_leI, nI_eq, q0, q1, q2, q3, q4, q5, q6, q10, q100, br_Tr, br_Fa, iI_s, iI_n, bI_q0, bI_q1, or_true, true_or, not_true_eq_false, not_false_eq_true, nI_l, ge64, Nat.lt_irrefl, Nat.add_sub_cancel, Nat.not_lt_zero]
    exact q
  · have hw := (hc.1.1.hw hh).2.2 g (by omega)
    refine sg170_5 l G _ c _ _ _ _ _ ?_
    try simp (disch := omega) only [hc.1.2.1.all, hc.1.2.2.1, hc.1.2.2.2.1.1.all, hc.1.2.2.2.1.all, hc.tab, hg, neg2_neg, wr_s, in_nI, clN, ti_z, ti_l, true_and, and_true, kI, zI, rI, kL, zL, rL, kR, zR, nnI, nnL, nnR, iL, iR, lI, lR, exi, exl, exv, eq_self, nI_add, nI_mul, nI_sub, nI_ltI, nI_leI, nI_eq, q0, q1, q2, q3, q4, q5, q6, q10, q100, br_Tr, br_Fa, iI_s, iI_n, bI_q0, bI_q1, or_true, true_or, not_true_eq_false, not_false_eq_true, nI_l, ge64, Nat.lt_irrefl, Nat.add_sub_cancel, Nat.not_lt_zero]
    unfold sumN tru1 at ih
    refine ax_brc (fun h0 => ?_) (fun h0 => ?_)
    · rw [if_pos (by omega)] at ih
      exact ih
    · rw [if_neg (by omega)] at ih
      refine d131 hc hw (by omega) hm ?_
      cases hq : best a g (hW a h g) m with
      | none =>
        rw [hq] at ih
        try simp (disch := omega) only [show e4 none = -nI 2 by decide +kernel, neg2_neg, wr_s, in_nI, clN, ti_z, ti_l, true_and, and_true, kI, zI, rI, kL, zL, rL, kR, zR, nnI, nnL, nnR, iL, iR, lI, lR, exi, exl, exv, eq_self, nI_add, nI_mul, nI_sub, nI_ltI, nI_leI, nI_eq, q0, q1, q2, q3, q4, q5, q6, q10, q100, br_Tr, br_Fa, iI_s, iI_n, bI_q0, bI_q1, or_true, true_or, not_true_eq_false, not_false_eq_true, nI_l, ge64, Nat.lt_irrefl, Nat.add_sub_cancel, Nat.not_lt_zero]
        exact ih
      | some b =>
        rw [hq] at ih
        have hbi := best_in hc.1.1 hw hq
        try simp (disch := omega) only [show e4 (some b) = nI b.1 from rfl, hc.1.2.1.all, hc.1.2.2.1, hc.1.2.2.2.1.1.all, hc.1.2.2.2.1.all, hc.tab, wr_s, in_nI, clN, ti_z, ti_l, true_and, and_true, kI, zI, rI, kL, zL, rL, kR, zR, nnI, nnL, nnR, iL, iR, lI, lR, exi, exl, exv, eq_self, nI_add, nI_mul, nI_sub, nI_ltI, nI_leI, nI_eq, q0, q1, q2, q3, q4, q5, q6, q10, q100, br_Tr, br_Fa, iI_s, iI_n, bI_q0, bI_q1, or_true, true_or, not_true_eq_false, not_false_eq_true, nI_l, ge64, Nat.lt_irrefl, Nat.add_sub_cancel, Nat.not_lt_zero]
        refine d94 hc hw hbi.1 hm ?_
        try simp (disch := omega) only [hc.1.2.1.all, hc.1.2.2.1, hc.1.2.2.2.1.1.all, hc.1.2.2.2.1.all, hc.tab, wr_s, in_nI, clN, ti_z, ti_l, true_and, and_true, kI, zI, rI, kL, zL, rL, kR, zR, nnI, nnL, nnR, iL, iR, lI, lR, exi, exl, exv, eq_self, nI_add, nI_mul, nI_sub, nI_ltI, nI_leI, nI_eq, q0, q1, q2, q3, q4, q5, q6, q10, q100, br_Tr, br_Fa, iI_s, iI_n, bI_q0, bI_q1, or_true, true_or, not_true_eq_false, not_false_eq_true, nI_l, ge64, Nat.lt_irrefl, Nat.add_sub_cancel, Nat.not_lt_zero]
        simp only [hbi.2.2.2.1] at ih
        exact ih
theorem d185 {h m : Nat} {K : Int32 → ax_M → Prop} (hc : CT μ c L a) (hh : h < nHo a) (hm : m < nMo a) (q : K (nI (liv a h m)) μ) : ax_CI l G 185 [ax_r (some c), ax_i (nI h), ax_i (nI m)] μ K := by
  have hb := hc.bd
  have t1 := tru_in hc.1.1 (m := m) hh
  have t2 := tru_in hc.1.1 (m := 0) hh
  refine ax_Ct.of (by decide) (Nat.le_of_ble_eq_true rfl) (sg185_0 l G _ c _ _ _ ?_)
  try simp (disch := omega) only [hc.1.2.1.all, hc.1.2.2.1, hc.1.2.2.2.1.1.all, hc.1.2.2.2.1.all, hc.tab, wr_s, in_nI, clN, ti_z, ti_l, true_and, and_true, kI, zI, rI, kL, zL, rL, kR, zR, nnI, nnL, nnR, iL, iR, lI, lR, exi, exl, exv, eq_self, nI_add, nI_mul, nI_sub, nI_ltI, nI_leI, nI_eq, q0, q1, q2, q3, q4, q5, q6, q10, q100, br_Tr, br_Fa, iI_s, iI_n, bI_q0, bI_q1, or_true, true_or, not_true_eq_false, not_false_eq_true, nI_l, ge64, Nat.lt_irrefl, Nat.add_sub_cancel, Nat.not_lt_zero]
  refine d170 hc hh hm ?_
  try simp (disch := omega) only [hc.1.2.1.all, hc.1.2.2.1, hc.1.2.2.2.1.1.all, hc.1.2.2.2.1.all, hc.tab, wr_s, in_nI, clN, ti_z, ti_l, true_and, and_true, kI, zI, rI, kL, zL, rL, kR, zR, nnI, nnL, nnR, iL, iR, lI, lR, exi, exl, exv, eq_self, nI_add, nI_mul, nI_sub, nI_ltI, nI_leI, nI_eq, q0, q1, q2, q3, q4, q5, q6, q10, q100, br_Tr, br_Fa, iI_s, iI_n, bI_q0, bI_q1, or_true, true_or, not_true_eq_false, not_false_eq_true, nI_l, ge64, Nat.lt_irrefl, Nat.add_sub_cancel, Nat.not_lt_zero]
  refine d170 hc hh (by omega) ?_
  try simp (disch := omega) only [wr_s, in_nI, clN, ti_z, ti_l, true_and, and_true, kI, zI, rI, kL, zL, rL, kR, zR, nnI, nnL, nnR, iL, iR, lI, lR, exi, exl, exv, eq_self, nI_add, nI_mul, nI_sub, nI_ltI, nI_leI, nI_eq, q0, q1, q2, q3, q4, q5, q6, q10, q100, br_Tr, br_Fa, iI_s, iI_n, bI_q0, bI_q1, or_true, true_or, not_true_eq_false, not_false_eq_true, nI_l, ge64, Nat.lt_irrefl, Nat.add_sub_cancel, Nat.not_lt_zero]
  refine d85 (by omega) (by omega) ?_
  try simp (disch := omega) only [wr_s, in_nI, clN, ti_z, ti_l, true_and, and_true, kI, zI, rI, kL, zL, rL, kR, zR, nnI, nnL, nnR, iL, iR, lI, lR, exi, exl, exv, eq_self, nI_add, nI_mul, nI_sub, nI_ltI, nI_leI, nI_eq, q0, q1, q2, q3, q4, q5, q6, q10, q100, br_Tr, br_Fa, iI_s, iI_n, bI_q0, bI_q1, or_true, true_or, not_true_eq_false, not_false_eq_true, nI_l, ge64, Nat.lt_irrefl, Nat.add_sub_cancel, Nat.not_lt_zero]
  exact q
theorem d134 {h m : Nat} {K : Int32 → ax_M → Prop} (hc : CB μ c L a) (hh : h < nHo a) (hm : m < nMo a) (q : K (nI (rat (cst a h 0 m) (cst a h 0 0))) μ) : ax_CI l G 134 [ax_r (some c), ax_i (nI h), ax_i (nI m)] μ K := by
  have hb := hc.bd
  have t1 := cst_in hc.1.1.1 (b := 0) (p := m) hh
  have t2 := cst_in hc.1.1.1 (b := 0) (p := 0) hh
  refine ax_Ct.of (by decide) (Nat.le_of_ble_eq_true rfl) (sg134_0 l G _ c _ _ _ ?_)
  try simp (disch := omega) only [hc.1.1.2.1.all, hc.1.1.2.2.1, hc.1.1.2.2.2.1.1.all, hc.1.1.2.2.2.1.all, hc.1.tab, hc.2, wr_s, in_nI, clN, ti_z, ti_l, true_and, and_true, kI, zI, rI, kL, zL, rL, kR, zR, nnI, nnL, nnR, iL, iR, lI, lR, exi, exl, exv, eq_self, nI_add, nI_mul, nI_sub, nI_ltI, nI_leI, nI_eq, q0, q1, q2, q3, q4, q5, q6, q10, q100, br_Tr, br_Fa, iI_s, iI_n, bI_q0, bI_q1, or_true, true_or, not_true_eq_false, not_false_eq_true, nI_l, ge64, Nat.lt_irrefl, Nat.add_sub_cancel, Nat.not_lt_zero]
  refine d90 hc hh (by omega) hm ?_
  try simp (disch := omega) only [hc.1.1.2.1.all, hc.1.1.2.2.1, hc.1.1.2.2.2.1.1.all, hc.1.1.2.2.2.1.all, hc.1.tab, hc.2, wr_s, in_nI, clN, ti_z, ti_l, true_and, and_true, kI, zI, rI, kL, zL, rL, kR, zR, nnI, nnL, nnR, iL, iR, lI, lR, exi, exl, exv, eq_self, nI_add, nI_mul, nI_sub, nI_ltI, nI_leI, nI_eq, q0, q1, q2, q3, q4, q5, q6, q10, q100, br_Tr, br_Fa, iI_s, iI_n, bI_q0, bI_q1, or_true, true_or, not_true_eq_false, not_false_eq_true, nI_l, ge64, Nat.lt_irrefl, Nat.add_sub_cancel, Nat.not_lt_zero]
  refine d90 hc hh (by omega) (by omega) ?_
  try simp (disch := omega) only [wr_s, in_nI, clN, ti_z, ti_l, true_and, and_true, kI, zI, rI, kL, zL, rL, kR, zR, nnI, nnL, nnR, iL, iR, lI, lR, exi, exl, exv, eq_self, nI_add, nI_mul, nI_sub, nI_ltI, nI_leI, nI_eq, q0, q1, q2, q3, q4, q5, q6, q10, q100, br_Tr, br_Fa, iI_s, iI_n, bI_q0, bI_q1, or_true, true_or, not_true_eq_false, not_false_eq_true, nI_l, ge64, Nat.lt_irrefl, Nat.add_sub_cancel, Nat.not_lt_zero]
  refine d85 (by omega) (by omega) ?_
  try simp (disch := omega) only [wr_s, in_nI, clN, ti_z, ti_l, true_and, and_true, kI, zI, rI, kL, zL, rL, kR, zR, nnI, nnL, nnR, iL, iR, lI, lR, exi, exl, exv, eq_self, nI_add, nI_mul, nI_sub, nI_ltI, nI_leI, nI_eq, q0, q1, q2, q3, q4, q5, q6, q10, q100, br_Tr, br_Fa, iI_s, iI_n, bI_q0, bI_q1, or_true, true_or, not_true_eq_false, not_false_eq_true, nI_l, ge64, Nat.lt_irrefl, Nat.add_sub_cancel, Nat.not_lt_zero]
  exact q
theorem d137 {h m : Nat} {K : Int32 → ax_M → Prop} (hc : CB μ c L a) (hh : h < nHo a) (hm : m < nMo a) (q : K (nI (rat (cst a h m m) (cst a h m 0))) μ) : ax_CI l G 137 [ax_r (some c), ax_i (nI h), ax_i (nI m)] μ K := by
  have hb := hc.bd
  have t1 := cst_in hc.1.1.1 (b := m) (p := m) hh
  have t2 := cst_in hc.1.1.1 (b := m) (p := 0) hh
  refine ax_Ct.of (by decide) (Nat.le_of_ble_eq_true rfl) (sg137_0 l G _ c _ _ _ ?_)
  try simp (disch := omega) only [hc.1.1.2.1.all, hc.1.1.2.2.1, hc.1.1.2.2.2.1.1.all, hc.1.1.2.2.2.1.all, hc.1.tab, hc.2, wr_s, in_nI, clN, ti_z, ti_l, true_and, and_true, kI, zI, rI, kL, zL, rL, kR, zR, nnI, nnL, nnR, iL, iR, lI, lR, exi, exl, exv, eq_self, nI_add, nI_mul, nI_sub, nI_ltI, nI_leI, nI_eq, q0, q1, q2, q3, q4, q5, q6, q10, q100, br_Tr, br_Fa, iI_s, iI_n, bI_q0, bI_q1, or_true, true_or, not_true_eq_false, not_false_eq_true, nI_l, ge64, Nat.lt_irrefl, Nat.add_sub_cancel, Nat.not_lt_zero]
  refine d90 hc hh hm hm ?_
  try simp (disch := omega) only [hc.1.1.2.1.all, hc.1.1.2.2.1, hc.1.1.2.2.2.1.1.all, hc.1.1.2.2.2.1.all, hc.1.tab, hc.2, wr_s, in_nI, clN, ti_z, ti_l, true_and, and_true, kI, zI, rI, kL, zL, rL, kR, zR, nnI, nnL, nnR, iL, iR, lI, lR, exi, exl, exv, eq_self, nI_add, nI_mul, nI_sub, nI_ltI, nI_leI, nI_eq, q0, q1, q2, q3, q4, q5, q6, q10, q100, br_Tr, br_Fa, iI_s, iI_n, bI_q0, bI_q1, or_true, true_or, not_true_eq_false, not_false_eq_true, nI_l, ge64, Nat.lt_irrefl, Nat.add_sub_cancel, Nat.not_lt_zero]
  refine d90 hc hh hm (by omega) ?_
  try simp (disch := omega) only [wr_s, in_nI, clN, ti_z, ti_l, true_and, and_true, kI, zI, rI, kL, zL, rL, kR, zR, nnI, nnL, nnR, iL, iR, lI, lR, exi, exl, exv, eq_self, nI_add, nI_mul, nI_sub, nI_ltI, nI_leI, nI_eq, q0, q1, q2, q3, q4, q5, q6, q10, q100, br_Tr, br_Fa, iI_s, iI_n, bI_q0, bI_q1, or_true, true_or, not_true_eq_false, not_false_eq_true, nI_l, ge64, Nat.lt_irrefl, Nat.add_sub_cancel, Nat.not_lt_zero]
  refine d85 (by omega) (by omega) ?_
  try simp (disch := omega) only [wr_s, in_nI, clN, ti_z, ti_l, true_and, and_true, kI, zI, rI, kL, zL, rL, kR, zR, nnI, nnL, nnR, iL, iR, lI, lR, exi, exl, exv, eq_self, nI_add, nI_mul, nI_sub, nI_ltI, nI_leI, nI_eq, q0, q1, q2, q3, q4, q5, q6, q10, q100, br_Tr, br_Fa, iI_s, iI_n, bI_q0, bI_q1, or_true, true_or, not_true_eq_false, not_false_eq_true, nI_l, ge64, Nat.lt_irrefl, Nat.add_sub_cancel, Nat.not_lt_zero]
  exact q
theorem d139 {h m : Nat} {K : Int32 → ax_M → Prop} (hc : CB μ c L a) (hh : h < nHo a) (hm : m < nMo a) (q : K (nI (cst a h m m)) μ) : ax_CI l G 139 [ax_r (some c), ax_i (nI h), ax_i (nI m)] μ K := by
  have hb := hc.bd
  refine ax_Ct.of (by decide) (Nat.le_of_ble_eq_true rfl) (sg139_0 l G _ c _ _ _ ?_)
  try simp (disch := omega) only [hc.1.1.2.1.all, hc.1.1.2.2.1, hc.1.1.2.2.2.1.1.all, hc.1.1.2.2.2.1.all, hc.1.tab, hc.2, wr_s, in_nI, clN, ti_z, ti_l, true_and, and_true, kI, zI, rI, kL, zL, rL, kR, zR, nnI, nnL, nnR, iL, iR, lI, lR, exi, exl, exv, eq_self, nI_add, nI_mul, nI_sub, nI_ltI, nI_leI, nI_eq, q0, q1, q2, q3, q4, q5, q6, q10, q100, br_Tr, br_Fa, iI_s, iI_n, bI_q0, bI_q1, or_true, true_or, not_true_eq_false, not_false_eq_true, nI_l, ge64, Nat.lt_irrefl, Nat.add_sub_cancel, Nat.not_lt_zero]
  refine d90 hc hh hm hm ?_
  try simp (disch := omega) only [lN_i, wr_s, in_nI, clN, ti_z, ti_l, true_and, and_true, kI, zI, rI, kL, zL, rL, kR, zR, nnI, nnL, nnR, iL, iR, lI, lR, exi, exl, exv, eq_self, nI_add, nI_mul, nI_sub, nI_ltI, nI_leI, nI_eq, q0, q1, q2, q3, q4, q5, q6, q10, q100, br_Tr, br_Fa, iI_s, iI_n, bI_q0, bI_q1, or_true, true_or, not_true_eq_false, not_false_eq_true, nI_l, ge64, Nat.lt_irrefl, Nat.add_sub_cancel, Nat.not_lt_zero]
  exact q
theorem bI_eq (u v : Bool) : (bI u = bI v) = (u = v) := by cases u <;> cases v <;> exact propext (by decide +kernel)
theorem d91 {t m : Nat} {K : Int32 → ax_M → Prop} (hc : CT μ c L a) (ht : t < nTh a) (hm : m < nMo a) (q : K (bI (asF a m t)) μ) : ax_CI l G 91 [ax_r (some c), ax_i (nI t), ax_i (nI m)] μ K := by
  have hb := hc.bd
  obtain ⟨s1, s2, s3⟩ := stt_in hc.1.1 ht m
  obtain ⟨r1, r2, r3⟩ := stt_in hc.1.1 ht 0
  have fin : ∀ u : Bool, Tr a t m = Tr a t 0 → u = (decide (Sz a t m = Sz a t 0) && decide (Sf a t m = Sf a t 0) && decide (Pr a t m = Pr a t 0)) → (ax_Rw l G ax_h91 (ax_E G ax_h91 (fun x μ' => ∃ v : Int32, x = some (ax_i v) ∧ K v μ')) 79 [(0, ax_r (some c)), (1, ax_i (nI t)), (2, ax_i (nI m))] [ax_i (bI u)] 0 0 μ) := by
    intro u hT hu
    unfold asF at q
    rw [decide_eq_true hT, ← hu] at q
    refine sg91_79 l G _ c _ _ _ _ ?_
    try simp (disch := omega) only [hc.1.2.1.all, hc.1.2.2.1, hc.1.2.2.2.1.1.all, hc.1.2.2.2.1.all, hc.tab, wr_s, in_nI, clN, ti_z, ti_l, true_and, and_true, kI, zI, rI, kL, zL, rL, kR, zR, nnI, nnL, nnR, iL, iR, lI, lR, exi, exl, exv, eq_self, nI_add, nI_mul, nI_sub, nI_ltI, nI_leI, nI_eq, q0, q1, q2, q3, q4, q5, q6, q10, q100, br_Tr, br_Fa, iI_s, iI_n, bI_q0, bI_q1, or_true, true_or, not_true_eq_false, not_false_eq_true, nI_l, ge64, Nat.lt_irrefl, Nat.add_sub_cancel, Nat.not_lt_zero]
    refine ax_brc (fun h0 => ?_) (fun h0 => ?_)
    · refine d14 hc ht hm ?_
      rw [h0] at q
      try simp (disch := omega) only [wr_s, in_nI, clN, ti_z, ti_l, true_and, and_true, kI, zI, rI, kL, zL, rL, kR, zR, nnI, nnL, nnR, iL, iR, lI, lR, exi, exl, exv, eq_self, nI_add, nI_mul, nI_sub, nI_ltI, nI_leI, nI_eq, q0, q1, q2, q3, q4, q5, q6, q10, q100, br_Tr, br_Fa, iI_s, iI_n, bI_q0, bI_q1, or_true, true_or, not_true_eq_false, not_false_eq_true, nI_l, ge64, Nat.lt_irrefl, Nat.add_sub_cancel, Nat.not_lt_zero]
      cases hx : Tr a t m
      · rw [hx] at q; exact ax_brt rfl q
      · rw [hx] at q; exact ax_brf (by decide) q
    · rw [show u = true by simpa using h0] at q
      exact q
  refine ax_Ct.of (by decide) (Nat.le_of_ble_eq_true rfl) (sg91_0 l G _ c _ _ _ ?_)
  try simp (disch := omega) only [hc.1.2.1.all, hc.1.2.2.1, hc.1.2.2.2.1.1.all, hc.1.2.2.2.1.all, hc.tab, wr_s, in_nI, clN, ti_z, ti_l, true_and, and_true, kI, zI, rI, kL, zL, rL, kR, zR, nnI, nnL, nnR, iL, iR, lI, lR, exi, exl, exv, eq_self, nI_add, nI_mul, nI_sub, nI_ltI, nI_leI, nI_eq, q0, q1, q2, q3, q4, q5, q6, q10, q100, br_Tr, br_Fa, iI_s, iI_n, bI_q0, bI_q1, or_true, true_or, not_true_eq_false, not_false_eq_true, nI_l, ge64, Nat.lt_irrefl, Nat.add_sub_cancel, Nat.not_lt_zero]
  refine d14 hc ht hm ?_
  try simp (disch := omega) only [hc.1.2.1.all, hc.1.2.2.1, hc.1.2.2.2.1.1.all, hc.1.2.2.2.1.all, hc.tab, wr_s, in_nI, clN, ti_z, ti_l, true_and, and_true, kI, zI, rI, kL, zL, rL, kR, zR, nnI, nnL, nnR, iL, iR, lI, lR, exi, exl, exv, eq_self, nI_add, nI_mul, nI_sub, nI_ltI, nI_leI, nI_eq, q0, q1, q2, q3, q4, q5, q6, q10, q100, br_Tr, br_Fa, iI_s, iI_n, bI_q0, bI_q1, or_true, true_or, not_true_eq_false, not_false_eq_true, nI_l, ge64, Nat.lt_irrefl, Nat.add_sub_cancel, Nat.not_lt_zero]
  refine d14 hc ht (by omega) ?_
  try simp (disch := omega) only [hc.1.2.1.all, hc.1.2.2.1, hc.1.2.2.2.1.1.all, hc.1.2.2.2.1.all, hc.tab, bI_eq, wr_s, in_nI, clN, ti_z, ti_l, true_and, and_true, kI, zI, rI, kL, zL, rL, kR, zR, nnI, nnL, nnR, iL, iR, lI, lR, exi, exl, exv, eq_self, nI_add, nI_mul, nI_sub, nI_ltI, nI_leI, nI_eq, q0, q1, q2, q3, q4, q5, q6, q10, q100, br_Tr, br_Fa, iI_s, iI_n, bI_q0, bI_q1, or_true, true_or, not_true_eq_false, not_false_eq_true, nI_l, ge64, Nat.lt_irrefl, Nat.add_sub_cancel, Nat.not_lt_zero]
  refine ax_brc (fun h0 => ?_) (fun h0 => ?_)
  · refine ax_brc (fun h1 => ?_) (fun h1 => ?_)
    · refine ax_brc (fun h2 => ?_) (fun h2 => ?_)
      · refine ax_brc (fun h3 => ?_) (fun h3 => ?_)
        · exact fin true h0 (by simp [h1, h2, h3])
        · exact fin false h0 (by simp [h3])
      · exact fin false h0 (by simp [h2])
    · exact fin false h0 (by simp [h1])
  · unfold asF at q
    rw [decide_eq_false h0] at q
    exact q
theorem d136 {m : Nat} {K : Int32 → ax_M → Prop} (hc : CT μ c L a) (hm : m < nMo a) (q : K (bI (isBk a m)) μ) : ax_CI l G 136 [ax_r (some c), ax_i (nI m)] μ K := by
  have hb := hc.bd
  refine ax_Ct.of (by decide) (Nat.le_of_ble_eq_true rfl) (sg136_0 l G _ c _ _ ?_)
  refine up_to (P := fun t => (∀ j, j < t → asF a m j = true) → (ax_Rw l G ax_h136 (ax_E G ax_h136 _) 2 [(0, ax_r (some c)), (1, ax_i (nI m)), (2, ax_i (nI t))] [] 0 0 μ)) (nTh a) (fun hf => ?_) (fun t ht ih hf => ?_) 0 (Nat.zero_le _) (fun j hj => by omega)
  · refine sg136_2 l G _ c _ _ _ ?_
    try simp (disch := omega) only [hc.1.2.1.all, hc.1.2.2.1, hc.1.2.2.2.1.1.all, hc.1.2.2.2.1.all, hc.tab, wr_s, in_nI, clN, ti_z, ti_l, true_and, and_true, kI, zI, rI, kL, zL, rL, kR, zR, nnI, nnL, nnR, iL, iR, lI, lR, exi, exl, exv, eq_self, nI_add, nI_mul, nI_sub, nI_ltI, nI_leI, nI_eq, q0, q1, q2, q3, q4, q5, q6, q10, q100, br_Tr, br_Fa, iI_s, iI_n, bI_q0, bI_q1, or_true, true_or, not_true_eq_false, not_false_eq_true, nI_l, ge64, Nat.lt_irrefl, Nat.add_sub_cancel, Nat.not_lt_zero]
    unfold isBk at q
    rw [allN_t hf, bI_1] at q
    exact q
  · refine sg136_2 l G _ c _ _ _ ?_
    try simp (disch := omega) only [hc.1.2.1.all, hc.1.2.2.1, hc.1.2.2.2.1.1.all, hc.1.2.2.2.1.all, hc.tab, ht, wr_s, in_nI, clN, ti_z, ti_l, true_and, and_true, kI, zI, rI, kL, zL, rL, kR, zR, nnI, nnL, nnR, iL, iR, lI, lR, exi, exl, exv, eq_self, nI_add, nI_mul, nI_sub, nI_ltI, nI_leI, nI_eq, q0, q1, q2, q3, q4, q5, q6, q10, q100, br_Tr, br_Fa, iI_s, iI_n, bI_q0, bI_q1, or_true, true_or, not_true_eq_false, not_false_eq_true, nI_l, ge64, Nat.lt_irrefl, Nat.add_sub_cancel, Nat.not_lt_zero]
    refine d91 hc ht hm ?_
    try simp (disch := omega) only [wr_s, in_nI, clN, ti_z, ti_l, true_and, and_true, kI, zI, rI, kL, zL, rL, kR, zR, nnI, nnL, nnR, iL, iR, lI, lR, exi, exl, exv, eq_self, nI_add, nI_mul, nI_sub, nI_ltI, nI_leI, nI_eq, q0, q1, q2, q3, q4, q5, q6, q10, q100, br_Tr, br_Fa, iI_s, iI_n, bI_q0, bI_q1, or_true, true_or, not_true_eq_false, not_false_eq_true, nI_l, ge64, Nat.lt_irrefl, Nat.add_sub_cancel, Nat.not_lt_zero]
    refine ax_brc (fun h1 => ?_) (fun h1 => ih (lt_s hf (by simpa using h1)))
    unfold isBk at q
    rw [allN_f ht h1, bI_z] at q
    exact q
end C6
