/-! the class: thing, change, house, office -/
section T6
variable {l : Launch} {G : ax_G} {μ : ax_M} {M n : Nat} {p : Nat → Nat} {s : PS}
theorem d175 {K : Int32 → ax_M → Prop} (hG : GC G) (h : RS μ M n p s) (hm : nTh (pL s) < 8 → (pM s).1 < 18) (q : ∀ μ' v, FQ (PM M) μ μ' → RR μ' v M n p (rTh p n s) → K v μ') : ax_CI l G 175 [ax_r (some 150)] μ K := by
  have hb := h.bd
  unfold rTh at q
  refine ax_Ct.of (by decide) (Nat.le_of_ble_eq_true rfl) (sg175_0 l G _ 150 _ ?_)
  try simp (disch := omega) only [h.1.1, h.1.2.1.all, h.2.1.1, h.2.2.1.all, h.2.2.2.2.1.1.all, h.2.2.2.2.1.all, h.2.2.2.2.2.1.1, h.2.2.2.2.2.1.2, wr_s, in_nI, clN, ti_z, ti_l, true_and, and_true, kI, zI, rI, kL, zL, rL, kR, zR, nnI, nnL, nnR, iL, iR, lI, lR, exi, exl, exv, eq_self, nI_add, nI_mul, nI_sub, nI_ltI, nI_leI, nI_eq, q0, q1, q2, q3, q4, q5, q6, q10, q100, br_Tr, br_Fa, iI_s, iI_n, bI_q0, bI_q1, or_true, true_or, not_true_eq_false, not_false_eq_true, nI_l, ge64, Nat.lt_irrefl, Nat.add_sub_cancel, Nat.not_lt_zero, lN_0, lN_1e4, lN_1e6, lN_1e3, lN_add, lN_mul, lN_ltI, lN_leI, lN_eqI, lN_i, lcE, lcLe, lcLt, lN_div, q7, q12, q20, q99, q200, q999, q1e4, if_true, if_false, Nat.le_refl, q8, q11, q16, q18, q32, q44, q48, q57, q59, q97, q122, q900]
  refine ax_brc (fun c => ?_) (fun c => ?_)
  rotate_left
  · rw [if_pos (by omega)] at q
    refine d32 h (fun μ1 f1 h1 => ?_)
    try simp (disch := omega) only [wr_s, in_nI, clN, ti_z, ti_l, true_and, and_true, kI, zI, rI, kL, zL, rL, kR, zR, nnI, nnL, nnR, iL, iR, lI, lR, exi, exl, exv, eq_self, nI_add, nI_mul, nI_sub, nI_ltI, nI_leI, nI_eq, q0, q1, q2, q3, q4, q5, q6, q10, q100, br_Tr, br_Fa, iI_s, iI_n, bI_q0, bI_q1, or_true, true_or, not_true_eq_false, not_false_eq_true, nI_l, ge64, Nat.lt_irrefl, Nat.add_sub_cancel, Nat.not_lt_zero, lN_0, lN_1e4, lN_1e6, lN_1e3, lN_add, lN_mul, lN_ltI, lN_leI, lN_eqI, lN_i, lcE, lcLe, lcLt, lN_div, q7, q12, q20, q99, q200, q999, q1e4, if_true, if_false, Nat.le_refl, q8, q11, q16, q18, q32, q44, q48, q57, q59, q97, q122, q900]
    exact q _ _ (f1.mono (fun b q => by have q : b = 150 := q; omega)) ⟨rfl, h1⟩
  rw [if_neg (by omega)] at q
  try simp (disch := omega) only [h.1.1, h.1.2.1.all, h.2.1.1, h.2.2.1.all, h.2.2.2.2.1.1.all, h.2.2.2.2.1.all, h.2.2.2.2.2.1.1, h.2.2.2.2.2.1.2, wr_s, in_nI, clN, ti_z, ti_l, true_and, and_true, kI, zI, rI, kL, zL, rL, kR, zR, nnI, nnL, nnR, iL, iR, lI, lR, exi, exl, exv, eq_self, nI_add, nI_mul, nI_sub, nI_ltI, nI_leI, nI_eq, q0, q1, q2, q3, q4, q5, q6, q10, q100, br_Tr, br_Fa, iI_s, iI_n, bI_q0, bI_q1, or_true, true_or, not_true_eq_false, not_false_eq_true, nI_l, ge64, Nat.lt_irrefl, Nat.add_sub_cancel, Nat.not_lt_zero, lN_0, lN_1e4, lN_1e6, lN_1e3, lN_add, lN_mul, lN_ltI, lN_leI, lN_eqI, lN_i, lcE, lcLe, lcLt, lN_div, q7, q12, q20, q99, q200, q999, q1e4, if_true, if_false, Nat.le_refl, q8, q11, q16, q18, q32, q44, q48, q57, q59, q97, q122, q900]
  refine e105 h (fun μ1 f1 h1 => ?_)
  have F1 := f1.mono (P' := PM M) (fun b q => by have q : b = 155 := q; omega)
  have L1 : pL (ad p n s) = pL s := rfl
  have hb1 := h1.bd
  try simp (disch := omega) only [h1.1.1, h1.1.2.1.all, h1.2.1.1, h1.2.2.1.all, h1.2.2.2.2.1.1.all, h1.2.2.2.2.1.all, h1.2.2.2.2.2.1.1, h1.2.2.2.2.2.1.2, wr_s, in_nI, clN, ti_z, ti_l, true_and, and_true, kI, zI, rI, kL, zL, rL, kR, zR, nnI, nnL, nnR, iL, iR, lI, lR, exi, exl, exv, eq_self, nI_add, nI_mul, nI_sub, nI_ltI, nI_leI, nI_eq, q0, q1, q2, q3, q4, q5, q6, q10, q100, br_Tr, br_Fa, iI_s, iI_n, bI_q0, bI_q1, or_true, true_or, not_true_eq_false, not_false_eq_true, nI_l, ge64, Nat.lt_irrefl, Nat.add_sub_cancel, Nat.not_lt_zero, lN_0, lN_1e4, lN_1e6, lN_1e3, lN_add, lN_mul, lN_ltI, lN_leI, lN_eqI, lN_i, lcE, lcLe, lcLt, lN_div, q7, q12, q20, q99, q200, q999, q1e4, if_true, if_false, Nat.le_refl, q8, q11, q16, q18, q32, q44, q48, q57, q59, q97, q122, q900]
  refine d143 (so := 1) (nu := nTh (pL s)) hG h1 (hm (by omega)) (by omega) (by omega) (fun μ2 v f2 h2 => ?_)
  have F2 := F1.trans (f2.mono (P' := PM M) (fun b q => by have q : 150 ≤ b ∧ b < 156 := q; omega))
  cases e2 : nmd p n 1 (nTh (pL s)) (ad p n s) with
  | inl e0 =>
    rw [e2] at q h2
    obtain ⟨rfl, h2⟩ := h2
    try simp (disch := omega) only [wr_s, in_nI, clN, ti_z, ti_l, true_and, and_true, kI, zI, rI, kL, zL, rL, kR, zR, nnI, nnL, nnR, iL, iR, lI, lR, exi, exl, exv, eq_self, nI_add, nI_mul, nI_sub, nI_ltI, nI_leI, nI_eq, q0, q1, q2, q3, q4, q5, q6, q10, q100, br_Tr, br_Fa, iI_s, iI_n, bI_q0, bI_q1, or_true, true_or, not_true_eq_false, not_false_eq_true, nI_l, ge64, Nat.lt_irrefl, Nat.add_sub_cancel, Nat.not_lt_zero, lN_0, lN_1e4, lN_1e6, lN_1e3, lN_add, lN_mul, lN_ltI, lN_leI, lN_eqI, lN_i, lcE, lcLe, lcLt, lN_div, q7, q12, q20, q99, q200, q999, q1e4, if_true, if_false, Nat.le_refl, q8, q11, q16, q18, q32, q44, q48, q57, q59, q97, q122, q900]
    exact q _ _ F2 ⟨rfl, h2⟩
  | inr s2 =>
    rw [e2, bnd_r] at q
    rw [e2] at h2
    obtain ⟨rfl, h2⟩ := h2
    have L2 : pL s2 = pL s := by rw [(nmd_2 e2).1]; rfl
    have hb2 := h2.bd
    try simp (disch := omega) only [h2.1.1, h2.1.2.1.all, h2.2.1.1, h2.2.2.1.all, h2.2.2.2.2.1.1.all, h2.2.2.2.2.1.all, h2.2.2.2.2.2.1.1, h2.2.2.2.2.2.1.2, show ¬ (1 = 0) by omega, wr_s, in_nI, clN, ti_z, ti_l, true_and, and_true, kI, zI, rI, kL, zL, rL, kR, zR, nnI, nnL, nnR, iL, iR, lI, lR, exi, exl, exv, eq_self, nI_add, nI_mul, nI_sub, nI_ltI, nI_leI, nI_eq, q0, q1, q2, q3, q4, q5, q6, q10, q100, br_Tr, br_Fa, iI_s, iI_n, bI_q0, bI_q1, or_true, true_or, not_true_eq_false, not_false_eq_true, nI_l, ge64, Nat.lt_irrefl, Nat.add_sub_cancel, Nat.not_lt_zero, lN_0, lN_1e4, lN_1e6, lN_1e3, lN_add, lN_mul, lN_ltI, lN_leI, lN_eqI, lN_i, lcE, lcLe, lcLt, lN_div, q7, q12, q20, q99, q200, q999, q1e4, if_true, if_false, Nat.le_refl, q8, q11, q16, q18, q32, q44, q48, q57, q59, q97, q122, q900]
    refine d142 (w := sW 15) h2 (by decide +kernel) (sW_ok 15 (by omega) (by omega)).1 (fun μ3 v f3 h3 => ?_)
    have F3 := F2.trans (f3.mono (P' := PM M) (fun b q => by rcases q with q | q <;> omega))
    cases e3 : tWd p n (sW 15) s2 with
    | inl e0 =>
      rw [e3] at q h3
      obtain ⟨rfl, h3⟩ := h3
      try simp (disch := omega) only [wr_s, in_nI, clN, ti_z, ti_l, true_and, and_true, kI, zI, rI, kL, zL, rL, kR, zR, nnI, nnL, nnR, iL, iR, lI, lR, exi, exl, exv, eq_self, nI_add, nI_mul, nI_sub, nI_ltI, nI_leI, nI_eq, q0, q1, q2, q3, q4, q5, q6, q10, q100, br_Tr, br_Fa, iI_s, iI_n, bI_q0, bI_q1, or_true, true_or, not_true_eq_false, not_false_eq_true, nI_l, ge64, Nat.lt_irrefl, Nat.add_sub_cancel, Nat.not_lt_zero, lN_0, lN_1e4, lN_1e6, lN_1e3, lN_add, lN_mul, lN_ltI, lN_leI, lN_eqI, lN_i, lcE, lcLe, lcLt, lN_div, q7, q12, q20, q99, q200, q999, q1e4, if_true, if_false, Nat.le_refl, q8, q11, q16, q18, q32, q44, q48, q57, q59, q97, q122, q900]
      exact q _ _ F3 ⟨rfl, h3⟩
    | inr s3 =>
      rw [e3, bnd_r] at q
      rw [e3] at h3
      obtain ⟨rfl, h3⟩ := h3
      have L3 : pL s3 = pL s := by rw [(tWd_2 e3).1]; exact L2
      have hb3 := h3.bd
      try simp (disch := omega) only [h3.1.1, h3.1.2.1.all, h3.2.1.1, h3.2.2.1.all, h3.2.2.2.2.1.1.all, h3.2.2.2.2.1.all, h3.2.2.2.2.2.1.1, h3.2.2.2.2.2.1.2, show ¬ (1 = 0) by omega, wr_s, in_nI, clN, ti_z, ti_l, true_and, and_true, kI, zI, rI, kL, zL, rL, kR, zR, nnI, nnL, nnR, iL, iR, lI, lR, exi, exl, exv, eq_self, nI_add, nI_mul, nI_sub, nI_ltI, nI_leI, nI_eq, q0, q1, q2, q3, q4, q5, q6, q10, q100, br_Tr, br_Fa, iI_s, iI_n, bI_q0, bI_q1, or_true, true_or, not_true_eq_false, not_false_eq_true, nI_l, ge64, Nat.lt_irrefl, Nat.add_sub_cancel, Nat.not_lt_zero, lN_0, lN_1e4, lN_1e6, lN_1e3, lN_add, lN_mul, lN_ltI, lN_leI, lN_eqI, lN_i, lcE, lcLe, lcLt, lN_div, q7, q12, q20, q99, q200, q999, q1e4, if_true, if_false, Nat.le_refl, q8, q11, q16, q18, q32, q44, q48, q57, q59, q97, q122, q900]
      refine d144 hG h3 (by omega) (fun μ4 v f4 h4 => ?_)
      have F4 := F3.trans (f4.mono (P' := PM M) (fun b q => by rcases q with q | q <;> omega))
      cases e4 : tlA p n 0 s3 with
      | inl e0 =>
        rw [e4] at q h4
        obtain ⟨rfl, h4⟩ := h4
        try simp (disch := omega) only [wr_s, in_nI, clN, ti_z, ti_l, true_and, and_true, kI, zI, rI, kL, zL, rL, kR, zR, nnI, nnL, nnR, iL, iR, lI, lR, exi, exl, exv, eq_self, nI_add, nI_mul, nI_sub, nI_ltI, nI_leI, nI_eq, q0, q1, q2, q3, q4, q5, q6, q10, q100, br_Tr, br_Fa, iI_s, iI_n, bI_q0, bI_q1, or_true, true_or, not_true_eq_false, not_false_eq_true, nI_l, ge64, Nat.lt_irrefl, Nat.add_sub_cancel, Nat.not_lt_zero, lN_0, lN_1e4, lN_1e6, lN_1e3, lN_add, lN_mul, lN_ltI, lN_leI, lN_eqI, lN_i, lcE, lcLe, lcLt, lN_div, q7, q12, q20, q99, q200, q999, q1e4, if_true, if_false, Nat.le_refl, q8, q11, q16, q18, q32, q44, q48, q57, q59, q97, q122, q900]
        exact q _ _ F4 ⟨rfl, h4⟩
      | inr g =>
        rw [e4, bnd_r] at q
        rw [e4] at h4
        obtain ⟨rfl, v4, h4⟩ := h4
        have L4 : pL g.2 = pL s := by rw [(tlA_2 e4).1]; exact L3
        have hb4 := h4.bd
        try simp (disch := omega) only [h4.1.1, h4.1.2.1.all, h4.2.1.1, h4.2.2.1.all, h4.2.2.2.2.1.1.all, h4.2.2.2.2.1.all, h4.2.2.2.2.2.1.1, h4.2.2.2.2.2.1.2, v4, show ¬ (1 = 0) by omega, wr_s, in_nI, clN, ti_z, ti_l, true_and, and_true, kI, zI, rI, kL, zL, rL, kR, zR, nnI, nnL, nnR, iL, iR, lI, lR, exi, exl, exv, eq_self, nI_add, nI_mul, nI_sub, nI_ltI, nI_leI, nI_eq, q0, q1, q2, q3, q4, q5, q6, q10, q100, br_Tr, br_Fa, iI_s, iI_n, bI_q0, bI_q1, or_true, true_or, not_true_eq_false, not_false_eq_true, nI_l, ge64, Nat.lt_irrefl, Nat.add_sub_cancel, Nat.not_lt_zero, lN_0, lN_1e4, lN_1e6, lN_1e3, lN_add, lN_mul, lN_ltI, lN_leI, lN_eqI, lN_i, lcE, lcLe, lcLt, lN_div, q7, q12, q20, q99, q200, q999, q1e4, if_true, if_false, Nat.le_refl, q8, q11, q16, q18, q32, q44, q48, q57, q59, q97, q122, q900]
        have f4' : FQ (fun b => b = M + 5 + nTh (pL s)) μ4 (sI μ4 (M + 5 + nTh (pL s)) 0 (nI g.1)) := (FQ.refl (fun b => b = M + 5 + nTh (pL s)) _).put rfl
        have h4 := h4.keep f4' (fun b q => Or.inr (by rw [L4]; unfold Sl; omega))
        have F4 := F4.trans (f4'.mono (P' := PM M) (fun b q => by omega))
        have w0 : gI (sI μ4 (M + 5 + nTh (pL s)) 0 (nI g.1)) (M + 5 + nTh (pL s)) 0 = nI g.1 := iI_s _ _ _ _
        refine d142 (w := sW 16) h4 (by decide +kernel) (sW_ok 16 (by omega) (by omega)).1 (fun μ5 v f5 h5 => ?_)
        have F5 := F4.trans (f5.mono (P' := PM M) (fun b q => by rcases q with q | q <;> omega))
        cases e5 : tWd p n (sW 16) g.2 with
        | inl e0 =>
          rw [e5] at q h5
          obtain ⟨rfl, h5⟩ := h5
          try simp (disch := omega) only [wr_s, in_nI, clN, ti_z, ti_l, true_and, and_true, kI, zI, rI, kL, zL, rL, kR, zR, nnI, nnL, nnR, iL, iR, lI, lR, exi, exl, exv, eq_self, nI_add, nI_mul, nI_sub, nI_ltI, nI_leI, nI_eq, q0, q1, q2, q3, q4, q5, q6, q10, q100, br_Tr, br_Fa, iI_s, iI_n, bI_q0, bI_q1, or_true, true_or, not_true_eq_false, not_false_eq_true, nI_l, ge64, Nat.lt_irrefl, Nat.add_sub_cancel, Nat.not_lt_zero, lN_0, lN_1e4, lN_1e6, lN_1e3, lN_add, lN_mul, lN_ltI, lN_leI, lN_eqI, lN_i, lcE, lcLe, lcLt, lN_div, q7, q12, q20, q99, q200, q999, q1e4, if_true, if_false, Nat.le_refl, q8, q11, q16, q18, q32, q44, q48, q57, q59, q97, q122, q900]
          exact q _ _ F5 ⟨rfl, h5⟩
        | inr s5 =>
          rw [e5, bnd_r] at q
          rw [e5] at h5
          obtain ⟨rfl, h5⟩ := h5
          have L5 : pL s5 = pL s := by rw [(tWd_2 e5).1]; exact L4
          have hb5 := h5.bd
          have w0 : gI μ5 (M + 5 + nTh (pL s)) 0 = nI g.1 := by rw [f5.I (by unfold P05; omega)]; exact w0
          try simp (disch := omega) only [h5.1.1, h5.1.2.1.all, h5.2.1.1, h5.2.2.1.all, h5.2.2.2.2.1.1.all, h5.2.2.2.2.1.all, h5.2.2.2.2.2.1.1, h5.2.2.2.2.2.1.2, show ¬ (1 = 0) by omega, wr_s, in_nI, clN, ti_z, ti_l, true_and, and_true, kI, zI, rI, kL, zL, rL, kR, zR, nnI, nnL, nnR, iL, iR, lI, lR, exi, exl, exv, eq_self, nI_add, nI_mul, nI_sub, nI_ltI, nI_leI, nI_eq, q0, q1, q2, q3, q4, q5, q6, q10, q100, br_Tr, br_Fa, iI_s, iI_n, bI_q0, bI_q1, or_true, true_or, not_true_eq_false, not_false_eq_true, nI_l, ge64, Nat.lt_irrefl, Nat.add_sub_cancel, Nat.not_lt_zero, lN_0, lN_1e4, lN_1e6, lN_1e3, lN_add, lN_mul, lN_ltI, lN_leI, lN_eqI, lN_i, lcE, lcLe, lcLt, lN_div, q7, q12, q20, q99, q200, q999, q1e4, if_true, if_false, Nat.le_refl, q8, q11, q16, q18, q32, q44, q48, q57, q59, q97, q122, q900]
          refine d141 h5 (by omega) (by omega) (fun μ6 v f6 h6 => ?_)
          have F6 := F5.trans (f6.mono (P' := PM M) (fun b q => by rcases q with q | q <;> omega))
          cases e6 : tWh p n 10 999 s5 with
          | inl e0 =>
            rw [e6] at q h6
            obtain ⟨rfl, h6⟩ := h6
            try simp (disch := omega) only [wr_s, in_nI, clN, ti_z, ti_l, true_and, and_true, kI, zI, rI, kL, zL, rL, kR, zR, nnI, nnL, nnR, iL, iR, lI, lR, exi, exl, exv, eq_self, nI_add, nI_mul, nI_sub, nI_ltI, nI_leI, nI_eq, q0, q1, q2, q3, q4, q5, q6, q10, q100, br_Tr, br_Fa, iI_s, iI_n, bI_q0, bI_q1, or_true, true_or, not_true_eq_false, not_false_eq_true, nI_l, ge64, Nat.lt_irrefl, Nat.add_sub_cancel, Nat.not_lt_zero, lN_0, lN_1e4, lN_1e6, lN_1e3, lN_add, lN_mul, lN_ltI, lN_leI, lN_eqI, lN_i, lcE, lcLe, lcLt, lN_div, q7, q12, q20, q99, q200, q999, q1e4, if_true, if_false, Nat.le_refl, q8, q11, q16, q18, q32, q44, q48, q57, q59, q97, q122, q900]
            exact q _ _ F6 ⟨rfl, h6⟩
          | inr z =>
            rw [e6, bnd_r] at q
            rw [e6] at h6
            obtain ⟨rfl, v6, h6⟩ := h6
            have L6 : pL z.2 = pL s := by rw [(tWh_2 e6).1]; exact L5
            have hb6 := h6.bd
            have w0 : gI μ6 (M + 5 + nTh (pL s)) 0 = nI g.1 := by rw [f6.I (by unfold P05; omega)]; exact w0
            try simp (disch := omega) only [h6.1.1, h6.1.2.1.all, h6.2.1.1, h6.2.2.1.all, h6.2.2.2.2.1.1.all, h6.2.2.2.2.1.all, h6.2.2.2.2.2.1.1, h6.2.2.2.2.2.1.2, v6, show ¬ (1 = 0) by omega, wr_s, in_nI, clN, ti_z, ti_l, true_and, and_true, kI, zI, rI, kL, zL, rL, kR, zR, nnI, nnL, nnR, iL, iR, lI, lR, exi, exl, exv, eq_self, nI_add, nI_mul, nI_sub, nI_ltI, nI_leI, nI_eq, q0, q1, q2, q3, q4, q5, q6, q10, q100, br_Tr, br_Fa, iI_s, iI_n, bI_q0, bI_q1, or_true, true_or, not_true_eq_false, not_false_eq_true, nI_l, ge64, Nat.lt_irrefl, Nat.add_sub_cancel, Nat.not_lt_zero, lN_0, lN_1e4, lN_1e6, lN_1e3, lN_add, lN_mul, lN_ltI, lN_leI, lN_eqI, lN_i, lcE, lcLe, lcLt, lN_div, q7, q12, q20, q99, q200, q999, q1e4, if_true, if_false, Nat.le_refl, q8, q11, q16, q18, q32, q44, q48, q57, q59, q97, q122, q900]
            have f6' : FQ (fun b => b = M + 5 + nTh (pL s)) μ6 (sI μ6 (M + 5 + nTh (pL s)) 1 (nI z.1)) := (FQ.refl (fun b => b = M + 5 + nTh (pL s)) _).put rfl
            have h6 := h6.keep f6' (fun b q => Or.inr (by rw [L6]; unfold Sl; omega))
            have F6 := F6.trans (f6'.mono (P' := PM M) (fun b q => by omega))
            have w0 : gI (sI μ6 (M + 5 + nTh (pL s)) 1 (nI z.1)) (M + 5 + nTh (pL s)) 0 = nI g.1 := by rw [iI_n (by omega)]; exact w0
            have w1 : gI (sI μ6 (M + 5 + nTh (pL s)) 1 (nI z.1)) (M + 5 + nTh (pL s)) 1 = nI z.1 := iI_s _ _ _ _
            refine d142 (w := sW 17) h6 (by decide +kernel) (sW_ok 17 (by omega) (by omega)).1 (fun μ7 v f7 h7 => ?_)
            have F7 := F6.trans (f7.mono (P' := PM M) (fun b q => by rcases q with q | q <;> omega))
            cases e7 : tWd p n (sW 17) z.2 with
            | inl e0 =>
              rw [e7] at q h7
              obtain ⟨rfl, h7⟩ := h7
              try simp (disch := omega) only [wr_s, in_nI, clN, ti_z, ti_l, true_and, and_true, kI, zI, rI, kL, zL, rL, kR, zR, nnI, nnL, nnR, iL, iR, lI, lR, exi, exl, exv, eq_self, nI_add, nI_mul, nI_sub, nI_ltI, nI_leI, nI_eq, q0, q1, q2, q3, q4, q5, q6, q10, q100, br_Tr, br_Fa, iI_s, iI_n, bI_q0, bI_q1, or_true, true_or, not_true_eq_false, not_false_eq_true, nI_l, ge64, Nat.lt_irrefl, Nat.add_sub_cancel, Nat.not_lt_zero, lN_0, lN_1e4, lN_1e6, lN_1e3, lN_add, lN_mul, lN_ltI, lN_leI, lN_eqI, lN_i, lcE, lcLe, lcLt, lN_div, q7, q12, q20, q99, q200, q999, q1e4, if_true, if_false, Nat.le_refl, q8, q11, q16, q18, q32, q44, q48, q57, q59, q97, q122, q900]
              exact q _ _ F7 ⟨rfl, h7⟩
            | inr s7 =>
              rw [e7, bnd_r] at q
              rw [e7] at h7
              obtain ⟨rfl, h7⟩ := h7
              have L7 : pL s7 = pL s := by rw [(tWd_2 e7).1]; exact L6
              have hb7 := h7.bd
              have w0 : gI μ7 (M + 5 + nTh (pL s)) 0 = nI g.1 := by rw [f7.I (by unfold P05; omega)]; exact w0
              have w1 : gI μ7 (M + 5 + nTh (pL s)) 1 = nI z.1 := by rw [f7.I (by unfold P05; omega)]; exact w1
              try simp (disch := omega) only [h7.1.1, h7.1.2.1.all, h7.2.1.1, h7.2.2.1.all, h7.2.2.2.2.1.1.all, h7.2.2.2.2.1.all, h7.2.2.2.2.2.1.1, h7.2.2.2.2.2.1.2, show ¬ (1 = 0) by omega, wr_s, in_nI, clN, ti_z, ti_l, true_and, and_true, kI, zI, rI, kL, zL, rL, kR, zR, nnI, nnL, nnR, iL, iR, lI, lR, exi, exl, exv, eq_self, nI_add, nI_mul, nI_sub, nI_ltI, nI_leI, nI_eq, q0, q1, q2, q3, q4, q5, q6, q10, q100, br_Tr, br_Fa, iI_s, iI_n, bI_q0, bI_q1, or_true, true_or, not_true_eq_false, not_false_eq_true, nI_l, ge64, Nat.lt_irrefl, Nat.add_sub_cancel, Nat.not_lt_zero, lN_0, lN_1e4, lN_1e6, lN_1e3, lN_add, lN_mul, lN_ltI, lN_leI, lN_eqI, lN_i, lcE, lcLe, lcLt, lN_div, q7, q12, q20, q99, q200, q999, q1e4, if_true, if_false, Nat.le_refl, q8, q11, q16, q18, q32, q44, q48, q57, q59, q97, q122, q900]
              refine d141 h7 (by omega) (by omega) (fun μ8 v f8 h8 => ?_)
              have F8 := F7.trans (f8.mono (P' := PM M) (fun b q => by rcases q with q | q <;> omega))
              cases e8 : tWh p n 10 200 s7 with
              | inl e0 =>
                rw [e8] at q h8
                obtain ⟨rfl, h8⟩ := h8
                try simp (disch := omega) only [wr_s, in_nI, clN, ti_z, ti_l, true_and, and_true, kI, zI, rI, kL, zL, rL, kR, zR, nnI, nnL, nnR, iL, iR, lI, lR, exi, exl, exv, eq_self, nI_add, nI_mul, nI_sub, nI_ltI, nI_leI, nI_eq, q0, q1, q2, q3, q4, q5, q6, q10, q100, br_Tr, br_Fa, iI_s, iI_n, bI_q0, bI_q1, or_true, true_or, not_true_eq_false, not_false_eq_true, nI_l, ge64, Nat.lt_irrefl, Nat.add_sub_cancel, Nat.not_lt_zero, lN_0, lN_1e4, lN_1e6, lN_1e3, lN_add, lN_mul, lN_ltI, lN_leI, lN_eqI, lN_i, lcE, lcLe, lcLt, lN_div, q7, q12, q20, q99, q200, q999, q1e4, if_true, if_false, Nat.le_refl, q8, q11, q16, q18, q32, q44, q48, q57, q59, q97, q122, q900]
                exact q _ _ F8 ⟨rfl, h8⟩
              | inr x =>
                rw [e8, bnd_r] at q
                rw [e8] at h8
                obtain ⟨rfl, v8, h8⟩ := h8
                have L8 : pL x.2 = pL s := by rw [(tWh_2 e8).1]; exact L7
                have hb8 := h8.bd
                have w0 : gI μ8 (M + 5 + nTh (pL s)) 0 = nI g.1 := by rw [f8.I (by unfold P05; omega)]; exact w0
                have w1 : gI μ8 (M + 5 + nTh (pL s)) 1 = nI z.1 := by rw [f8.I (by unfold P05; omega)]; exact w1
                try simp (disch := omega) only [h8.1.1, h8.1.2.1.all, h8.2.1.1, h8.2.2.1.all, h8.2.2.2.2.1.1.all, h8.2.2.2.2.1.all, h8.2.2.2.2.2.1.1, h8.2.2.2.2.2.1.2, v8, show ¬ (1 = 0) by omega, wr_s, in_nI, clN, ti_z, ti_l, true_and, and_true, kI, zI, rI, kL, zL, rL, kR, zR, nnI, nnL, nnR, iL, iR, lI, lR, exi, exl, exv, eq_self, nI_add, nI_mul, nI_sub, nI_ltI, nI_leI, nI_eq, q0, q1, q2, q3, q4, q5, q6, q10, q100, br_Tr, br_Fa, iI_s, iI_n, bI_q0, bI_q1, or_true, true_or, not_true_eq_false, not_false_eq_true, nI_l, ge64, Nat.lt_irrefl, Nat.add_sub_cancel, Nat.not_lt_zero, lN_0, lN_1e4, lN_1e6, lN_1e3, lN_add, lN_mul, lN_ltI, lN_leI, lN_eqI, lN_i, lcE, lcLe, lcLt, lN_div, q7, q12, q20, q99, q200, q999, q1e4, if_true, if_false, Nat.le_refl, q8, q11, q16, q18, q32, q44, q48, q57, q59, q97, q122, q900]
                have f8' : FQ (fun b => b = M + 5 + nTh (pL s)) μ8 (sI μ8 (M + 5 + nTh (pL s)) 2 (nI x.1)) := (FQ.refl (fun b => b = M + 5 + nTh (pL s)) _).put rfl
                have h8 := h8.keep f8' (fun b q => Or.inr (by rw [L8]; unfold Sl; omega))
                have F8 := F8.trans (f8'.mono (P' := PM M) (fun b q => by omega))
                have w0 : gI (sI μ8 (M + 5 + nTh (pL s)) 2 (nI x.1)) (M + 5 + nTh (pL s)) 0 = nI g.1 := by rw [iI_n (by omega)]; exact w0
                have w1 : gI (sI μ8 (M + 5 + nTh (pL s)) 2 (nI x.1)) (M + 5 + nTh (pL s)) 1 = nI z.1 := by rw [iI_n (by omega)]; exact w1
                have w2 : gI (sI μ8 (M + 5 + nTh (pL s)) 2 (nI x.1)) (M + 5 + nTh (pL s)) 2 = nI x.1 := iI_s _ _ _ _
                refine d142 (w := sW 18) h8 (by decide +kernel) (sW_ok 18 (by omega) (by omega)).1 (fun μ9 v f9 h9 => ?_)
                have F9 := F8.trans (f9.mono (P' := PM M) (fun b q => by rcases q with q | q <;> omega))
                cases e9 : tWd p n (sW 18) x.2 with
                | inl e0 =>
                  rw [e9] at q h9
                  obtain ⟨rfl, h9⟩ := h9
                  try simp (disch := omega) only [wr_s, in_nI, clN, ti_z, ti_l, true_and, and_true, kI, zI, rI, kL, zL, rL, kR, zR, nnI, nnL, nnR, iL, iR, lI, lR, exi, exl, exv, eq_self, nI_add, nI_mul, nI_sub, nI_ltI, nI_leI, nI_eq, q0, q1, q2, q3, q4, q5, q6, q10, q100, br_Tr, br_Fa, iI_s, iI_n, bI_q0, bI_q1, or_true, true_or, not_true_eq_false, not_false_eq_true, nI_l, ge64, Nat.lt_irrefl, Nat.add_sub_cancel, Nat.not_lt_zero, lN_0, lN_1e4, lN_1e6, lN_1e3, lN_add, lN_mul, lN_ltI, lN_leI, lN_eqI, lN_i, lcE, lcLe, lcLt, lN_div, q7, q12, q20, q99, q200, q999, q1e4, if_true, if_false, Nat.le_refl, q8, q11, q16, q18, q32, q44, q48, q57, q59, q97, q122, q900]
                  exact q _ _ F9 ⟨rfl, h9⟩
                | inr s9 =>
                  rw [e9, bnd_r] at q
                  rw [e9] at h9
                  obtain ⟨rfl, h9⟩ := h9
                  have L9 : pL s9 = pL s := by rw [(tWd_2 e9).1]; exact L8
                  have hb9 := h9.bd
                  have w0 : gI μ9 (M + 5 + nTh (pL s)) 0 = nI g.1 := by rw [f9.I (by unfold P05; omega)]; exact w0
                  have w1 : gI μ9 (M + 5 + nTh (pL s)) 1 = nI z.1 := by rw [f9.I (by unfold P05; omega)]; exact w1
                  have w2 : gI μ9 (M + 5 + nTh (pL s)) 2 = nI x.1 := by rw [f9.I (by unfold P05; omega)]; exact w2
                  try simp (disch := omega) only [h9.1.1, h9.1.2.1.all, h9.2.1.1, h9.2.2.1.all, h9.2.2.2.2.1.1.all, h9.2.2.2.2.1.all, h9.2.2.2.2.2.1.1, h9.2.2.2.2.2.1.2, show ¬ (1 = 0) by omega, wr_s, in_nI, clN, ti_z, ti_l, true_and, and_true, kI, zI, rI, kL, zL, rL, kR, zR, nnI, nnL, nnR, iL, iR, lI, lR, exi, exl, exv, eq_self, nI_add, nI_mul, nI_sub, nI_ltI, nI_leI, nI_eq, q0, q1, q2, q3, q4, q5, q6, q10, q100, br_Tr, br_Fa, iI_s, iI_n, bI_q0, bI_q1, or_true, true_or, not_true_eq_false, not_false_eq_true, nI_l, ge64, Nat.lt_irrefl, Nat.add_sub_cancel, Nat.not_lt_zero, lN_0, lN_1e4, lN_1e6, lN_1e3, lN_add, lN_mul, lN_ltI, lN_leI, lN_eqI, lN_i, lcE, lcLe, lcLt, lN_div, q7, q12, q20, q99, q200, q999, q1e4, if_true, if_false, Nat.le_refl, q8, q11, q16, q18, q32, q44, q48, q57, q59, q97, q122, q900]
                  refine d141 h9 (by omega) (by omega) (fun μ10 v f10 h10 => ?_)
                  have F10 := F9.trans (f10.mono (P' := PM M) (fun b q => by rcases q with q | q <;> omega))
                  cases e10 : tWh p n 1 999 s9 with
                  | inl e0 =>
                    rw [e10] at q h10
                    obtain ⟨rfl, h10⟩ := h10
                    try simp (disch := omega) only [wr_s, in_nI, clN, ti_z, ti_l, true_and, and_true, kI, zI, rI, kL, zL, rL, kR, zR, nnI, nnL, nnR, iL, iR, lI, lR, exi, exl, exv, eq_self, nI_add, nI_mul, nI_sub, nI_ltI, nI_leI, nI_eq, q0, q1, q2, q3, q4, q5, q6, q10, q100, br_Tr, br_Fa, iI_s, iI_n, bI_q0, bI_q1, or_true, true_or, not_true_eq_false, not_false_eq_true, nI_l, ge64, Nat.lt_irrefl, Nat.add_sub_cancel, Nat.not_lt_zero, lN_0, lN_1e4, lN_1e6, lN_1e3, lN_add, lN_mul, lN_ltI, lN_leI, lN_eqI, lN_i, lcE, lcLe, lcLt, lN_div, q7, q12, q20, q99, q200, q999, q1e4, if_true, if_false, Nat.le_refl, q8, q11, q16, q18, q32, q44, q48, q57, q59, q97, q122, q900]
                    exact q _ _ F10 ⟨rfl, h10⟩
                  | inr y =>
                    rw [e10, bnd_r] at q
                    rw [e10] at h10
                    obtain ⟨rfl, v10, h10⟩ := h10
                    have L10 : pL y.2 = pL s := by rw [(tWh_2 e10).1]; exact L9
                    have hb10 := h10.bd
                    have w0 : gI μ10 (M + 5 + nTh (pL s)) 0 = nI g.1 := by rw [f10.I (by unfold P05; omega)]; exact w0
                    have w1 : gI μ10 (M + 5 + nTh (pL s)) 1 = nI z.1 := by rw [f10.I (by unfold P05; omega)]; exact w1
                    have w2 : gI μ10 (M + 5 + nTh (pL s)) 2 = nI x.1 := by rw [f10.I (by unfold P05; omega)]; exact w2
                    try simp (disch := omega) only [h10.1.1, h10.1.2.1.all, h10.2.1.1, h10.2.2.1.all, h10.2.2.2.2.1.1.all, h10.2.2.2.2.1.all, h10.2.2.2.2.2.1.1, h10.2.2.2.2.2.1.2, v10, show ¬ (1 = 0) by omega, wr_s, in_nI, clN, ti_z, ti_l, true_and, and_true, kI, zI, rI, kL, zL, rL, kR, zR, nnI, nnL, nnR, iL, iR, lI, lR, exi, exl, exv, eq_self, nI_add, nI_mul, nI_sub, nI_ltI, nI_leI, nI_eq, q0, q1, q2, q3, q4, q5, q6, q10, q100, br_Tr, br_Fa, iI_s, iI_n, bI_q0, bI_q1, or_true, true_or, not_true_eq_false, not_false_eq_true, nI_l, ge64, Nat.lt_irrefl, Nat.add_sub_cancel, Nat.not_lt_zero, lN_0, lN_1e4, lN_1e6, lN_1e3, lN_add, lN_mul, lN_ltI, lN_leI, lN_eqI, lN_i, lcE, lcLe, lcLt, lN_div, q7, q12, q20, q99, q200, q999, q1e4, if_true, if_false, Nat.le_refl, q8, q11, q16, q18, q32, q44, q48, q57, q59, q97, q122, q900]
                    have f10' : FQ (fun b => b = M + 5 + nTh (pL s)) μ10 (sI μ10 (M + 5 + nTh (pL s)) 3 (nI y.1)) := (FQ.refl (fun b => b = M + 5 + nTh (pL s)) _).put rfl
                    have h10 := h10.keep f10' (fun b q => Or.inr (by rw [L10]; unfold Sl; omega))
                    have F10 := F10.trans (f10'.mono (P' := PM M) (fun b q => by omega))
                    have w0 : gI (sI μ10 (M + 5 + nTh (pL s)) 3 (nI y.1)) (M + 5 + nTh (pL s)) 0 = nI g.1 := by rw [iI_n (by omega)]; exact w0
                    have w1 : gI (sI μ10 (M + 5 + nTh (pL s)) 3 (nI y.1)) (M + 5 + nTh (pL s)) 1 = nI z.1 := by rw [iI_n (by omega)]; exact w1
                    have w2 : gI (sI μ10 (M + 5 + nTh (pL s)) 3 (nI y.1)) (M + 5 + nTh (pL s)) 2 = nI x.1 := by rw [iI_n (by omega)]; exact w2
                    have w3 : gI (sI μ10 (M + 5 + nTh (pL s)) 3 (nI y.1)) (M + 5 + nTh (pL s)) 3 = nI y.1 := iI_s _ _ _ _
                    exact q _ _ (F10.put (by omega)) ⟨rfl, h10.adT (by rw [L10]; omega) (by rw [L10]; exact w0) (by rw [L10]; exact w1) (by rw [L10]; exact w2) (by rw [L10]; exact w3)⟩
theorem d174 {K : Int32 → ax_M → Prop} (hG : GC G) (h : RS μ M n p s) (hm : nOf (pL s) < 3 → (pM s).1 < 18) (q : ∀ μ' v, FQ (PM M) μ μ' → RR μ' v M n p (rOf p n s) → K v μ') : ax_CI l G 174 [ax_r (some 150)] μ K := by
  have hb := h.bd
  unfold rOf at q
  refine ax_Ct.of (by decide) (Nat.le_of_ble_eq_true rfl) (sg174_0 l G _ 150 _ ?_)
  try simp (disch := omega) only [h.1.1, h.1.2.1.all, h.2.1.1, h.2.2.1.all, h.2.2.2.2.1.1.all, h.2.2.2.2.1.all, h.2.2.2.2.2.1.1, h.2.2.2.2.2.1.2, wr_s, in_nI, clN, ti_z, ti_l, true_and, and_true, kI, zI, rI, kL, zL, rL, kR, zR, nnI, nnL, nnR, iL, iR, lI, lR, exi, exl, exv, eq_self, nI_add, nI_mul, nI_sub, nI_ltI, nI_leI, nI_eq, q0, q1, q2, q3, q4, q5, q6, q10, q100, br_Tr, br_Fa, iI_s, iI_n, bI_q0, bI_q1, or_true, true_or, not_true_eq_false, not_false_eq_true, nI_l, ge64, Nat.lt_irrefl, Nat.add_sub_cancel, Nat.not_lt_zero, lN_0, lN_1e4, lN_1e6, lN_1e3, lN_add, lN_mul, lN_ltI, lN_leI, lN_eqI, lN_i, lcE, lcLe, lcLt, lN_div, q7, q12, q20, q99, q200, q999, q1e4, if_true, if_false, Nat.le_refl, q8, q11, q16, q18, q32, q44, q48, q57, q59, q97, q122, q900]
  refine ax_brc (fun c => ?_) (fun c => ?_)
  rotate_left
  · rw [if_pos (by omega)] at q
    refine d32 h (fun μ1 f1 h1 => ?_)
    try simp (disch := omega) only [wr_s, in_nI, clN, ti_z, ti_l, true_and, and_true, kI, zI, rI, kL, zL, rL, kR, zR, nnI, nnL, nnR, iL, iR, lI, lR, exi, exl, exv, eq_self, nI_add, nI_mul, nI_sub, nI_ltI, nI_leI, nI_eq, q0, q1, q2, q3, q4, q5, q6, q10, q100, br_Tr, br_Fa, iI_s, iI_n, bI_q0, bI_q1, or_true, true_or, not_true_eq_false, not_false_eq_true, nI_l, ge64, Nat.lt_irrefl, Nat.add_sub_cancel, Nat.not_lt_zero, lN_0, lN_1e4, lN_1e6, lN_1e3, lN_add, lN_mul, lN_ltI, lN_leI, lN_eqI, lN_i, lcE, lcLe, lcLt, lN_div, q7, q12, q20, q99, q200, q999, q1e4, if_true, if_false, Nat.le_refl, q8, q11, q16, q18, q32, q44, q48, q57, q59, q97, q122, q900]
    exact q _ _ (f1.mono (fun b q => by have q : b = 150 := q; omega)) ⟨rfl, h1⟩
  rw [if_neg (by omega)] at q
  try simp (disch := omega) only [h.1.1, h.1.2.1.all, h.2.1.1, h.2.2.1.all, h.2.2.2.2.1.1.all, h.2.2.2.2.1.all, h.2.2.2.2.2.1.1, h.2.2.2.2.2.1.2, wr_s, in_nI, clN, ti_z, ti_l, true_and, and_true, kI, zI, rI, kL, zL, rL, kR, zR, nnI, nnL, nnR, iL, iR, lI, lR, exi, exl, exv, eq_self, nI_add, nI_mul, nI_sub, nI_ltI, nI_leI, nI_eq, q0, q1, q2, q3, q4, q5, q6, q10, q100, br_Tr, br_Fa, iI_s, iI_n, bI_q0, bI_q1, or_true, true_or, not_true_eq_false, not_false_eq_true, nI_l, ge64, Nat.lt_irrefl, Nat.add_sub_cancel, Nat.not_lt_zero, lN_0, lN_1e4, lN_1e6, lN_1e3, lN_add, lN_mul, lN_ltI, lN_leI, lN_eqI, lN_i, lcE, lcLe, lcLt, lN_div, q7, q12, q20, q99, q200, q999, q1e4, if_true, if_false, Nat.le_refl, q8, q11, q16, q18, q32, q44, q48, q57, q59, q97, q122, q900]
  refine e105 h (fun μ1 f1 h1 => ?_)
  have F1 := f1.mono (P' := PM M) (fun b q => by have q : b = 155 := q; omega)
  have L1 : pL (ad p n s) = pL s := rfl
  have hb1 := h1.bd
  try simp (disch := omega) only [h1.1.1, h1.1.2.1.all, h1.2.1.1, h1.2.2.1.all, h1.2.2.2.2.1.1.all, h1.2.2.2.2.1.all, h1.2.2.2.2.2.1.1, h1.2.2.2.2.2.1.2, wr_s, in_nI, clN, ti_z, ti_l, true_and, and_true, kI, zI, rI, kL, zL, rL, kR, zR, nnI, nnL, nnR, iL, iR, lI, lR, exi, exl, exv, eq_self, nI_add, nI_mul, nI_sub, nI_ltI, nI_leI, nI_eq, q0, q1, q2, q3, q4, q5, q6, q10, q100, br_Tr, br_Fa, iI_s, iI_n, bI_q0, bI_q1, or_true, true_or, not_true_eq_false, not_false_eq_true, nI_l, ge64, Nat.lt_irrefl, Nat.add_sub_cancel, Nat.not_lt_zero, lN_0, lN_1e4, lN_1e6, lN_1e3, lN_add, lN_mul, lN_ltI, lN_leI, lN_eqI, lN_i, lcE, lcLe, lcLt, lN_div, q7, q12, q20, q99, q200, q999, q1e4, if_true, if_false, Nat.le_refl, q8, q11, q16, q18, q32, q44, q48, q57, q59, q97, q122, q900]
  refine d143 (so := 3) (nu := nOf (pL s)) hG h1 (hm (by omega)) (by omega) (by omega) (fun μ2 v f2 h2 => ?_)
  have F2 := F1.trans (f2.mono (P' := PM M) (fun b q => by have q : 150 ≤ b ∧ b < 156 := q; omega))
  cases e2 : nmd p n 3 (nOf (pL s)) (ad p n s) with
  | inl e0 =>
    rw [e2] at q h2
    obtain ⟨rfl, h2⟩ := h2
    try simp (disch := omega) only [wr_s, in_nI, clN, ti_z, ti_l, true_and, and_true, kI, zI, rI, kL, zL, rL, kR, zR, nnI, nnL, nnR, iL, iR, lI, lR, exi, exl, exv, eq_self, nI_add, nI_mul, nI_sub, nI_ltI, nI_leI, nI_eq, q0, q1, q2, q3, q4, q5, q6, q10, q100, br_Tr, br_Fa, iI_s, iI_n, bI_q0, bI_q1, or_true, true_or, not_true_eq_false, not_false_eq_true, nI_l, ge64, Nat.lt_irrefl, Nat.add_sub_cancel, Nat.not_lt_zero, lN_0, lN_1e4, lN_1e6, lN_1e3, lN_add, lN_mul, lN_ltI, lN_leI, lN_eqI, lN_i, lcE, lcLe, lcLt, lN_div, q7, q12, q20, q99, q200, q999, q1e4, if_true, if_false, Nat.le_refl, q8, q11, q16, q18, q32, q44, q48, q57, q59, q97, q122, q900]
    exact q _ _ F2 ⟨rfl, h2⟩
  | inr s2 =>
    rw [e2, bnd_r] at q
    rw [e2] at h2
    obtain ⟨rfl, h2⟩ := h2
    have L2 : pL s2 = pL s := by rw [(nmd_2 e2).1]; rfl
    have hb2 := h2.bd
    try simp (disch := omega) only [h2.1.1, h2.1.2.1.all, h2.2.1.1, h2.2.2.1.all, h2.2.2.2.2.1.1.all, h2.2.2.2.2.1.all, h2.2.2.2.2.2.1.1, h2.2.2.2.2.2.1.2, show ¬ (1 = 0) by omega, wr_s, in_nI, clN, ti_z, ti_l, true_and, and_true, kI, zI, rI, kL, zL, rL, kR, zR, nnI, nnL, nnR, iL, iR, lI, lR, exi, exl, exv, eq_self, nI_add, nI_mul, nI_sub, nI_ltI, nI_leI, nI_eq, q0, q1, q2, q3, q4, q5, q6, q10, q100, br_Tr, br_Fa, iI_s, iI_n, bI_q0, bI_q1, or_true, true_or, not_true_eq_false, not_false_eq_true, nI_l, ge64, Nat.lt_irrefl, Nat.add_sub_cancel, Nat.not_lt_zero, lN_0, lN_1e4, lN_1e6, lN_1e3, lN_add, lN_mul, lN_ltI, lN_leI, lN_eqI, lN_i, lcE, lcLe, lcLt, lN_div, q7, q12, q20, q99, q200, q999, q1e4, if_true, if_false, Nat.le_refl, q8, q11, q16, q18, q32, q44, q48, q57, q59, q97, q122, q900]
    refine d140 (b := 3) (c := 3) (ws := wMis) hG.1.2.2.1 (by omega) h2 (fun μ3 v f3 h3 => ?_)
    have F3 := F2.trans (f3.mono (P' := PM M) (fun b q => by rcases q with q | q <;> omega))
    cases e3 : one p n wMis 3 s2 with
    | inl e0 =>
      rw [e3] at q h3
      obtain ⟨rfl, h3⟩ := h3
      try simp (disch := omega) only [wr_s, in_nI, clN, ti_z, ti_l, true_and, and_true, kI, zI, rI, kL, zL, rL, kR, zR, nnI, nnL, nnR, iL, iR, lI, lR, exi, exl, exv, eq_self, nI_add, nI_mul, nI_sub, nI_ltI, nI_leI, nI_eq, q0, q1, q2, q3, q4, q5, q6, q10, q100, br_Tr, br_Fa, iI_s, iI_n, bI_q0, bI_q1, or_true, true_or, not_true_eq_false, not_false_eq_true, nI_l, ge64, Nat.lt_irrefl, Nat.add_sub_cancel, Nat.not_lt_zero, lN_0, lN_1e4, lN_1e6, lN_1e3, lN_add, lN_mul, lN_ltI, lN_leI, lN_eqI, lN_i, lcE, lcLe, lcLt, lN_div, q7, q12, q20, q99, q200, q999, q1e4, if_true, if_false, Nat.le_refl, q8, q11, q16, q18, q32, q44, q48, q57, q59, q97, q122, q900]
      exact q _ _ F3 ⟨rfl, h3⟩
    | inr x =>
      rw [e3, bnd_r] at q
      rw [e3] at h3
      obtain ⟨rfl, v3, h3⟩ := h3
      have L3 : pL x.2 = pL s := by rw [(one_2 e3).1]; exact L2
      have hb3 := h3.bd
      try simp (disch := omega) only [h3.1.1, h3.1.2.1.all, h3.2.1.1, h3.2.2.1.all, h3.2.2.2.2.1.1.all, h3.2.2.2.2.1.all, h3.2.2.2.2.2.1.1, h3.2.2.2.2.2.1.2, v3, show ¬ (1 = 0) by omega, wr_s, in_nI, clN, ti_z, ti_l, true_and, and_true, kI, zI, rI, kL, zL, rL, kR, zR, nnI, nnL, nnR, iL, iR, lI, lR, exi, exl, exv, eq_self, nI_add, nI_mul, nI_sub, nI_ltI, nI_leI, nI_eq, q0, q1, q2, q3, q4, q5, q6, q10, q100, br_Tr, br_Fa, iI_s, iI_n, bI_q0, bI_q1, or_true, true_or, not_true_eq_false, not_false_eq_true, nI_l, ge64, Nat.lt_irrefl, Nat.add_sub_cancel, Nat.not_lt_zero, lN_0, lN_1e4, lN_1e6, lN_1e3, lN_add, lN_mul, lN_ltI, lN_leI, lN_eqI, lN_i, lcE, lcLe, lcLt, lN_div, q7, q12, q20, q99, q200, q999, q1e4, if_true, if_false, Nat.le_refl, q8, q11, q16, q18, q32, q44, q48, q57, q59, q97, q122, q900]
      have f3' : FQ (fun b => b = M + 39 + nOf (pL s)) μ3 (sI μ3 (M + 39 + nOf (pL s)) 0 (nI x.1)) := (FQ.refl (fun b => b = M + 39 + nOf (pL s)) _).put rfl
      have h3 := h3.keep f3' (fun b q => Or.inr (by rw [L3]; unfold Sl; omega))
      have F3 := F3.trans (f3'.mono (P' := PM M) (fun b q => by omega))
      have w0 : gI (sI μ3 (M + 39 + nOf (pL s)) 0 (nI x.1)) (M + 39 + nOf (pL s)) 0 = nI x.1 := iI_s _ _ _ _
      refine d140 (b := 4) (c := 2) (ws := wSee) hG.1.2.2.2.1 (by omega) h3 (fun μ4 v f4 h4 => ?_)
      have F4 := F3.trans (f4.mono (P' := PM M) (fun b q => by rcases q with q | q <;> omega))
      cases e4 : one p n wSee 2 x.2 with
      | inl e0 =>
        rw [e4] at q h4
        obtain ⟨rfl, h4⟩ := h4
        try simp (disch := omega) only [wr_s, in_nI, clN, ti_z, ti_l, true_and, and_true, kI, zI, rI, kL, zL, rL, kR, zR, nnI, nnL, nnR, iL, iR, lI, lR, exi, exl, exv, eq_self, nI_add, nI_mul, nI_sub, nI_ltI, nI_leI, nI_eq, q0, q1, q2, q3, q4, q5, q6, q10, q100, br_Tr, br_Fa, iI_s, iI_n, bI_q0, bI_q1, or_true, true_or, not_true_eq_false, not_false_eq_true, nI_l, ge64, Nat.lt_irrefl, Nat.add_sub_cancel, Nat.not_lt_zero, lN_0, lN_1e4, lN_1e6, lN_1e3, lN_add, lN_mul, lN_ltI, lN_leI, lN_eqI, lN_i, lcE, lcLe, lcLt, lN_div, q7, q12, q20, q99, q200, q999, q1e4, if_true, if_false, Nat.le_refl, q8, q11, q16, q18, q32, q44, q48, q57, q59, q97, q122, q900]
        exact q _ _ F4 ⟨rfl, h4⟩
      | inr y =>
        rw [e4, bnd_r] at q
        rw [e4] at h4
        obtain ⟨rfl, v4, h4⟩ := h4
        have L4 : pL y.2 = pL s := by rw [(one_2 e4).1]; exact L3
        have hb4 := h4.bd
        have w0 : gI μ4 (M + 39 + nOf (pL s)) 0 = nI x.1 := by rw [f4.I (by unfold P05; omega)]; exact w0
        try simp (disch := omega) only [h4.1.1, h4.1.2.1.all, h4.2.1.1, h4.2.2.1.all, h4.2.2.2.2.1.1.all, h4.2.2.2.2.1.all, h4.2.2.2.2.2.1.1, h4.2.2.2.2.2.1.2, v4, show ¬ (1 = 0) by omega, wr_s, in_nI, clN, ti_z, ti_l, true_and, and_true, kI, zI, rI, kL, zL, rL, kR, zR, nnI, nnL, nnR, iL, iR, lI, lR, exi, exl, exv, eq_self, nI_add, nI_mul, nI_sub, nI_ltI, nI_leI, nI_eq, q0, q1, q2, q3, q4, q5, q6, q10, q100, br_Tr, br_Fa, iI_s, iI_n, bI_q0, bI_q1, or_true, true_or, not_true_eq_false, not_false_eq_true, nI_l, ge64, Nat.lt_irrefl, Nat.add_sub_cancel, Nat.not_lt_zero, lN_0, lN_1e4, lN_1e6, lN_1e3, lN_add, lN_mul, lN_ltI, lN_leI, lN_eqI, lN_i, lcE, lcLe, lcLt, lN_div, q7, q12, q20, q99, q200, q999, q1e4, if_true, if_false, Nat.le_refl, q8, q11, q16, q18, q32, q44, q48, q57, q59, q97, q122, q900]
        have f4' : FQ (fun b => b = M + 39 + nOf (pL s)) μ4 (sI μ4 (M + 39 + nOf (pL s)) 1 (nI y.1)) := (FQ.refl (fun b => b = M + 39 + nOf (pL s)) _).put rfl
        have h4 := h4.keep f4' (fun b q => Or.inr (by rw [L4]; unfold Sl; omega))
        have F4 := F4.trans (f4'.mono (P' := PM M) (fun b q => by omega))
        have w0 : gI (sI μ4 (M + 39 + nOf (pL s)) 1 (nI y.1)) (M + 39 + nOf (pL s)) 0 = nI x.1 := by rw [iI_n (by omega)]; exact w0
        have w1 : gI (sI μ4 (M + 39 + nOf (pL s)) 1 (nI y.1)) (M + 39 + nOf (pL s)) 1 = nI y.1 := iI_s _ _ _ _
        refine d140 (b := 5) (c := 2) (ws := wBas) hG.1.2.2.2.2 (by omega) h4 (fun μ5 v f5 h5 => ?_)
        have F5 := F4.trans (f5.mono (P' := PM M) (fun b q => by rcases q with q | q <;> omega))
        cases e5 : one p n wBas 2 y.2 with
        | inl e0 =>
          rw [e5] at q h5
          obtain ⟨rfl, h5⟩ := h5
          try simp (disch := omega) only [wr_s, in_nI, clN, ti_z, ti_l, true_and, and_true, kI, zI, rI, kL, zL, rL, kR, zR, nnI, nnL, nnR, iL, iR, lI, lR, exi, exl, exv, eq_self, nI_add, nI_mul, nI_sub, nI_ltI, nI_leI, nI_eq, q0, q1, q2, q3, q4, q5, q6, q10, q100, br_Tr, br_Fa, iI_s, iI_n, bI_q0, bI_q1, or_true, true_or, not_true_eq_false, not_false_eq_true, nI_l, ge64, Nat.lt_irrefl, Nat.add_sub_cancel, Nat.not_lt_zero, lN_0, lN_1e4, lN_1e6, lN_1e3, lN_add, lN_mul, lN_ltI, lN_leI, lN_eqI, lN_i, lcE, lcLe, lcLt, lN_div, q7, q12, q20, q99, q200, q999, q1e4, if_true, if_false, Nat.le_refl, q8, q11, q16, q18, q32, q44, q48, q57, q59, q97, q122, q900]
          exact q _ _ F5 ⟨rfl, h5⟩
        | inr z =>
          rw [e5, bnd_r] at q
          rw [e5] at h5
          obtain ⟨rfl, v5, h5⟩ := h5
          have L5 : pL z.2 = pL s := by rw [(one_2 e5).1]; exact L4
          have hb5 := h5.bd
          have w0 : gI μ5 (M + 39 + nOf (pL s)) 0 = nI x.1 := by rw [f5.I (by unfold P05; omega)]; exact w0
          have w1 : gI μ5 (M + 39 + nOf (pL s)) 1 = nI y.1 := by rw [f5.I (by unfold P05; omega)]; exact w1
          try simp (disch := omega) only [h5.1.1, h5.1.2.1.all, h5.2.1.1, h5.2.2.1.all, h5.2.2.2.2.1.1.all, h5.2.2.2.2.1.all, h5.2.2.2.2.2.1.1, h5.2.2.2.2.2.1.2, v5, show ¬ (1 = 0) by omega, wr_s, in_nI, clN, ti_z, ti_l, true_and, and_true, kI, zI, rI, kL, zL, rL, kR, zR, nnI, nnL, nnR, iL, iR, lI, lR, exi, exl, exv, eq_self, nI_add, nI_mul, nI_sub, nI_ltI, nI_leI, nI_eq, q0, q1, q2, q3, q4, q5, q6, q10, q100, br_Tr, br_Fa, iI_s, iI_n, bI_q0, bI_q1, or_true, true_or, not_true_eq_false, not_false_eq_true, nI_l, ge64, Nat.lt_irrefl, Nat.add_sub_cancel, Nat.not_lt_zero, lN_0, lN_1e4, lN_1e6, lN_1e3, lN_add, lN_mul, lN_ltI, lN_leI, lN_eqI, lN_i, lcE, lcLe, lcLt, lN_div, q7, q12, q20, q99, q200, q999, q1e4, if_true, if_false, Nat.le_refl, q8, q11, q16, q18, q32, q44, q48, q57, q59, q97, q122, q900]
          have f5' : FQ (fun b => b = M + 39 + nOf (pL s)) μ5 (sI μ5 (M + 39 + nOf (pL s)) 2 (nI z.1)) := (FQ.refl (fun b => b = M + 39 + nOf (pL s)) _).put rfl
          have h5 := h5.keep f5' (fun b q => Or.inr (by rw [L5]; unfold Sl; omega))
          have F5 := F5.trans (f5'.mono (P' := PM M) (fun b q => by omega))
          have w0 : gI (sI μ5 (M + 39 + nOf (pL s)) 2 (nI z.1)) (M + 39 + nOf (pL s)) 0 = nI x.1 := by rw [iI_n (by omega)]; exact w0
          have w1 : gI (sI μ5 (M + 39 + nOf (pL s)) 2 (nI z.1)) (M + 39 + nOf (pL s)) 1 = nI y.1 := by rw [iI_n (by omega)]; exact w1
          have w2 : gI (sI μ5 (M + 39 + nOf (pL s)) 2 (nI z.1)) (M + 39 + nOf (pL s)) 2 = nI z.1 := iI_s _ _ _ _
          exact q _ _ (F5.put (by omega)) ⟨rfl, h5.adO (by rw [L5]; omega) (by rw [L5]; exact w0) (by rw [L5]; exact w1) (by rw [L5]; exact w2)⟩
end T6
