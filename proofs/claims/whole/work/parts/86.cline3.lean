/-! the class: change, wants, house, the whole text -/
section T7
variable {l : Launch} {G : ax_G} {μ : ax_M} {M n : Nat} {p : Nat → Nat} {s : PS}
theorem f16 {t m w b : Nat} {v : Int32} {K : ax_M → Prop} (h : RS μ M n p s) (hc : nCh (pL s) < 16) (hv : w ≤ 4 → v = nI b) (q : ∀ μ', FQ (fun b => M ≤ b ∧ b < M + 42) μ μ' → RS μ' M n p (s.1, adc (pL s) t m w b, s.2.2) → K μ') : ax_CV l G 16 [ax_r (some M), ax_i (nI t), ax_i (nI m), ax_i (nI w), ax_i v] μ K := by
  have hb := h.bd
  have hl := h.2.2.2.2.1
  refine ax_Ct.of (by decide) (Nat.le_of_ble_eq_true rfl) (sg16_0 l G _ M _ _ _ _ _ ?_)
  try simp (disch := omega) only [hl.1.all, hl.all, q20, show nCh (pL s) < 20 by omega, wr_s, in_nI, clN, ti_z, ti_l, true_and, and_true, kI, zI, rI, kL, zL, rL, kR, zR, nnI, nnL, nnR, iL, iR, lI, lR, exi, exl, exv, eq_self, nI_add, nI_mul, nI_sub, nI_ltI, nI_leI, nI_eq, q0, q1, q2, q3, q4, q5, q6, q10, q100, br_Tr, br_Fa, iI_s, iI_n, bI_q0, bI_q1, or_true, true_or, not_true_eq_false, not_false_eq_true, nI_l, ge64, Nat.lt_irrefl, Nat.add_sub_cancel, Nat.not_lt_zero, lN_0, lN_1e4, lN_1e6, lN_1e3, lN_add, lN_mul, lN_ltI, lN_leI, lN_eqI, lN_i, lcE, lcLe, lcLt, lN_div, q7, q12, q20, q99, q200, q999, q1e4, if_true, if_false, Nat.le_refl, q8, q11, q16, q18, q32, q44, q48, q57, q59, q97, q122, q900]
  have f : Fr (Pch M (nCh (pL s))) μ (sI (sI (sI (sI (sI μ (M + 13 + nCh (pL s)) 0 (nI t)) (M + 13 + nCh (pL s)) 1 (nI m)) (M + 13 + nCh (pL s)) 2 (nI w)) (M + 13 + nCh (pL s)) 3 v) M 7 (nI (nCh (pL s) + 1))) := (((((Fr.refl _ _).put (Or.inl rfl)).put (Or.inl rfl)).put (Or.inl rfl)).put (Or.inl rfl)).put (Or.inr ⟨rfl, rfl⟩)
  have f' := FQ.ofFr (P' := fun b => M ≤ b ∧ b < M + 42) f (fun b k q => by unfold Pch at q; omega)
  refine q _ f' (h.land f' ?_ ⟨hb.1.1, hb.1.2.1, hb.1.2.2.1, hc, hb.1.2.2.2.2⟩)
  generalize pL s = a at hl f hb hc
  obtain ⟨h0, h1, h2, h3, h4, h5⟩ := hl
  refine ⟨h0.fr f, fun k hk => ?_, fun t ht f' hf => ?_, fun k hk => ?_, fun k hk => ⟨?_, ?_, fun g hg => ?_⟩, fun o ho f' hf => ?_⟩
  · by_cases e : k = 3
    · subst e; exact iI_s _ _ _ _
    · rw [f.I (by unfold Pch; omega), h1 k hk]
      show _ = nI (if k = 3 then _ else a.1 k)
      rw [if_neg e]
  · rw [f.I (by unfold Pch; have : t < nTh a := ht; omega)]; exact h2 t ht f' hf
  · have hk : k < nCh a + 1 := hk
    by_cases e : k = nCh a
    · subst e
      refine ⟨fun f' hf => ?_, fun hh => ?_⟩
      · show _ = nI (if a.1 3 = a.1 3 then adf t m w b f' else _)
        rw [if_pos rfl]
        have : f' = 0 ∨ f' = 1 ∨ f' = 2 := by omega
        rcases this with rfl | rfl | rfl
        · try simp (disch := omega) only [wr_s, in_nI, clN, ti_z, ti_l, true_and, and_true, kI, zI, rI, kL, zL, rL, kR, zR, nnI, nnL, nnR, iL, iR, lI, lR, exi, exl, exv, eq_self, nI_add, nI_mul, nI_sub, nI_ltI, nI_leI, nI_eq, q0, q1, q2, q3, q4, q5, q6, q10, q100, br_Tr, br_Fa, iI_s, iI_n, bI_q0, bI_q1, or_true, true_or, not_true_eq_false, not_false_eq_true, nI_l, ge64, Nat.lt_irrefl, Nat.add_sub_cancel, Nat.not_lt_zero, lN_0, lN_1e4, lN_1e6, lN_1e3, lN_add, lN_mul, lN_ltI, lN_leI, lN_eqI, lN_i, lcE, lcLe, lcLt, lN_div, q7, q12, q20, q99, q200, q999, q1e4, if_true, if_false, Nat.le_refl, q8, q11, q16, q18, q32, q44, q48, q57, q59, q97, q122, q900]; rfl
        · try simp (disch := omega) only [wr_s, in_nI, clN, ti_z, ti_l, true_and, and_true, kI, zI, rI, kL, zL, rL, kR, zR, nnI, nnL, nnR, iL, iR, lI, lR, exi, exl, exv, eq_self, nI_add, nI_mul, nI_sub, nI_ltI, nI_leI, nI_eq, q0, q1, q2, q3, q4, q5, q6, q10, q100, br_Tr, br_Fa, iI_s, iI_n, bI_q0, bI_q1, or_true, true_or, not_true_eq_false, not_false_eq_true, nI_l, ge64, Nat.lt_irrefl, Nat.add_sub_cancel, Nat.not_lt_zero, lN_0, lN_1e4, lN_1e6, lN_1e3, lN_add, lN_mul, lN_ltI, lN_leI, lN_eqI, lN_i, lcE, lcLe, lcLt, lN_div, q7, q12, q20, q99, q200, q999, q1e4, if_true, if_false, Nat.le_refl, q8, q11, q16, q18, q32, q44, q48, q57, q59, q97, q122, q900]; rfl
        · try simp (disch := omega) only [wr_s, in_nI, clN, ti_z, ti_l, true_and, and_true, kI, zI, rI, kL, zL, rL, kR, zR, nnI, nnL, nnR, iL, iR, lI, lR, exi, exl, exv, eq_self, nI_add, nI_mul, nI_sub, nI_ltI, nI_leI, nI_eq, q0, q1, q2, q3, q4, q5, q6, q10, q100, br_Tr, br_Fa, iI_s, iI_n, bI_q0, bI_q1, or_true, true_or, not_true_eq_false, not_false_eq_true, nI_l, ge64, Nat.lt_irrefl, Nat.add_sub_cancel, Nat.not_lt_zero, lN_0, lN_1e4, lN_1e6, lN_1e3, lN_add, lN_mul, lN_ltI, lN_leI, lN_eqI, lN_i, lcE, lcLe, lcLt, lN_div, q7, q12, q20, q99, q200, q999, q1e4, if_true, if_false, Nat.le_refl, q8, q11, q16, q18, q32, q44, q48, q57, q59, q97, q122, q900]; rfl
      · have hh : (if a.1 3 = a.1 3 then adf t m w b 2 else _) ≤ 4 := hh
        rw [if_pos rfl] at hh
        show _ = nI (if a.1 3 = a.1 3 then adf t m w b 3 else _)
        rw [if_pos rfl]
        try simp (disch := omega) only [wr_s, in_nI, clN, ti_z, ti_l, true_and, and_true, kI, zI, rI, kL, zL, rL, kR, zR, nnI, nnL, nnR, iL, iR, lI, lR, exi, exl, exv, eq_self, nI_add, nI_mul, nI_sub, nI_ltI, nI_leI, nI_eq, q0, q1, q2, q3, q4, q5, q6, q10, q100, br_Tr, br_Fa, iI_s, iI_n, bI_q0, bI_q1, or_true, true_or, not_true_eq_false, not_false_eq_true, nI_l, ge64, Nat.lt_irrefl, Nat.add_sub_cancel, Nat.not_lt_zero, lN_0, lN_1e4, lN_1e6, lN_1e3, lN_add, lN_mul, lN_ltI, lN_leI, lN_eqI, lN_i, lcE, lcLe, lcLt, lN_div, q7, q12, q20, q99, q200, q999, q1e4, if_true, if_false, Nat.le_refl, q8, q11, q16, q18, q32, q44, q48, q57, q59, q97, q122, q900]
        exact hv hh
    · refine ⟨fun f' hf => ?_, fun hh => ?_⟩
      · rw [f.I (by unfold Pch; omega), (h3 k (by omega)).1 f' hf]
        show _ = nI (if k = a.1 3 then _ else a.2.2.1 k f')
        rw [if_neg e]
      · have hh : (if k = a.1 3 then _ else a.2.2.1 k 2) ≤ 4 := hh
        rw [if_neg e] at hh
        rw [f.I (by unfold Pch; omega), (h3 k (by omega)).2 hh]
        show _ = nI (if k = a.1 3 then _ else a.2.2.1 k 3)
        rw [if_neg e]
  · have : k < nHo a := hk
    rw [f.I (by unfold Pch; omega)]; exact (h4 k hk).1
  · have : k < nHo a := hk
    rw [f.I (by unfold Pch; omega)]; exact (h4 k hk).2.1
  · have : k < nHo a := hk
    rw [f.I (by unfold Pch; omega)]; exact (h4 k hk).2.2 g hg
  · have : o < nOf a := ho
    rw [f.I (by unfold Pch; omega)]; exact h5 o ho f' hf
theorem d171 {K : Int32 → ax_M → Prop} (hG : GC G) (h : RS μ M n p s) (q : ∀ μ' v, FQ (PM M) μ μ' → RR μ' v M n p (rCh p n s) → K v μ') : ax_CI l G 171 [ax_r (some 150)] μ K := by
  have hb := h.bd
  unfold rCh at q
  refine ax_Ct.of (by decide) (Nat.le_of_ble_eq_true rfl) (sg171_0 l G _ 150 _ ?_)
  try simp (disch := omega) only [h.1.1, h.1.2.1.all, h.2.1.1, h.2.2.1.all, h.2.2.2.2.1.1.all, h.2.2.2.2.1.all, h.2.2.2.2.2.1.1, h.2.2.2.2.2.1.2, wr_s, in_nI, clN, ti_z, ti_l, true_and, and_true, kI, zI, rI, kL, zL, rL, kR, zR, nnI, nnL, nnR, iL, iR, lI, lR, exi, exl, exv, eq_self, nI_add, nI_mul, nI_sub, nI_ltI, nI_leI, nI_eq, q0, q1, q2, q3, q4, q5, q6, q10, q100, br_Tr, br_Fa, iI_s, iI_n, bI_q0, bI_q1, or_true, true_or, not_true_eq_false, not_false_eq_true, nI_l, ge64, Nat.lt_irrefl, Nat.add_sub_cancel, Nat.not_lt_zero, lN_0, lN_1e4, lN_1e6, lN_1e3, lN_add, lN_mul, lN_ltI, lN_leI, lN_eqI, lN_i, lcE, lcLe, lcLt, lN_div, q7, q12, q20, q99, q200, q999, q1e4, if_true, if_false, Nat.le_refl, q8, q11, q16, q18, q32, q44, q48, q57, q59, q97, q122, q900]
  refine ax_brc (fun c => ?_) (fun c => ?_)
  rotate_left
  · rw [if_pos (by omega)] at q
    refine d32 h (fun μ1 f1 h1 => ?_)
    try simp (disch := omega) only [wr_s, in_nI, clN, ti_z, ti_l, true_and, and_true, kI, zI, rI, kL, zL, rL, kR, zR, nnI, nnL, nnR, iL, iR, lI, lR, exi, exl, exv, eq_self, nI_add, nI_mul, nI_sub, nI_ltI, nI_leI, nI_eq, q0, q1, q2, q3, q4, q5, q6, q10, q100, br_Tr, br_Fa, iI_s, iI_n, bI_q0, bI_q1, or_true, true_or, not_true_eq_false, not_false_eq_true, nI_l, ge64, Nat.lt_irrefl, Nat.add_sub_cancel, Nat.not_lt_zero, lN_0, lN_1e4, lN_1e6, lN_1e3, lN_add, lN_mul, lN_ltI, lN_leI, lN_eqI, lN_i, lcE, lcLe, lcLt, lN_div, q7, q12, q20, q99, q200, q999, q1e4, if_true, if_false, Nat.le_refl, q8, q11, q16, q18, q32, q44, q48, q57, q59, q97, q122, q900]
    exact q _ _ (f1.mono (fun b q => by have q : b = 150 := q; omega)) ⟨rfl, h1⟩
  rw [if_neg (by omega)] at q
  try simp (disch := omega) only [h.1.1, h.1.2.1.all, h.2.1.1, h.2.2.1.all, h.2.2.2.2.1.1.all, h.2.2.2.2.1.all, h.2.2.2.2.2.1.1, h.2.2.2.2.2.1.2, wr_s, in_nI, clN, ti_z, ti_l, true_and, and_true, kI, zI, rI, kL, zL, rL, kR, zR, nnI, nnL, nnR, iL, iR, lI, lR, exi, exl, exv, eq_self, nI_add, nI_mul, nI_sub, nI_ltI, nI_leI, nI_eq, q0, q1, q2, q3, q4, q5, q6, q10, q100, br_Tr, br_Fa, iI_s, iI_n, bI_q0, bI_q1, or_true, true_or, not_true_eq_false, not_false_eq_true, nI_l, ge64, Nat.lt_irrefl, Nat.add_sub_cancel, Nat.not_lt_zero, lN_0, lN_1e4, lN_1e6, lN_1e3, lN_add, lN_mul, lN_ltI, lN_leI, lN_eqI, lN_i, lcE, lcLe, lcLt, lN_div, q7, q12, q20, q99, q200, q999, q1e4, if_true, if_false, Nat.le_refl, q8, q11, q16, q18, q32, q44, q48, q57, q59, q97, q122, q900]
  refine e105 h (fun μ1 f1 h1 => ?_)
  have F1 := f1.mono (P' := PM M) (fun b q => by have q : b = 155 := q; omega)
  have L1 : pL (ad p n s) = pL s := rfl
  have hb1 := h1.bd
  try simp (disch := omega) only [h1.1.1, h1.1.2.1.all, h1.2.1.1, h1.2.2.1.all, h1.2.2.2.2.1.1.all, h1.2.2.2.2.1.all, h1.2.2.2.2.2.1.1, h1.2.2.2.2.2.1.2, wr_s, in_nI, clN, ti_z, ti_l, true_and, and_true, kI, zI, rI, kL, zL, rL, kR, zR, nnI, nnL, nnR, iL, iR, lI, lR, exi, exl, exv, eq_self, nI_add, nI_mul, nI_sub, nI_ltI, nI_leI, nI_eq, q0, q1, q2, q3, q4, q5, q6, q10, q100, br_Tr, br_Fa, iI_s, iI_n, bI_q0, bI_q1, or_true, true_or, not_true_eq_false, not_false_eq_true, nI_l, ge64, Nat.lt_irrefl, Nat.add_sub_cancel, Nat.not_lt_zero, lN_0, lN_1e4, lN_1e6, lN_1e3, lN_add, lN_mul, lN_ltI, lN_leI, lN_eqI, lN_i, lcE, lcLe, lcLt, lN_div, q7, q12, q20, q99, q200, q999, q1e4, if_true, if_false, Nat.le_refl, q8, q11, q16, q18, q32, q44, q48, q57, q59, q97, q122, q900]
  refine d144 hG h1 (by omega) (fun μ2 v f2 h2 => ?_)
  have F2 := F1.trans (f2.mono (P' := PM M) (fun b q => by rcases q with q | q <;> omega))
  cases e2 : tlA p n 1 (ad p n s) with
  | inl e0 =>
    rw [e2] at q h2
    obtain ⟨rfl, h2⟩ := h2
    try simp (disch := omega) only [wr_s, in_nI, clN, ti_z, ti_l, true_and, and_true, kI, zI, rI, kL, zL, rL, kR, zR, nnI, nnL, nnR, iL, iR, lI, lR, exi, exl, exv, eq_self, nI_add, nI_mul, nI_sub, nI_ltI, nI_leI, nI_eq, q0, q1, q2, q3, q4, q5, q6, q10, q100, br_Tr, br_Fa, iI_s, iI_n, bI_q0, bI_q1, or_true, true_or, not_true_eq_false, not_false_eq_true, nI_l, ge64, Nat.lt_irrefl, Nat.add_sub_cancel, Nat.not_lt_zero, lN_0, lN_1e4, lN_1e6, lN_1e3, lN_add, lN_mul, lN_ltI, lN_leI, lN_eqI, lN_i, lcE, lcLe, lcLt, lN_div, q7, q12, q20, q99, q200, q999, q1e4, if_true, if_false, Nat.le_refl, q8, q11, q16, q18, q32, q44, q48, q57, q59, q97, q122, q900]
    exact q _ _ F2 ⟨rfl, h2⟩
  | inr t =>
    rw [e2, bnd_r] at q
    rw [e2] at h2
    obtain ⟨rfl, v2, h2⟩ := h2
    have L2 : pL t.2 = pL s := by rw [(tlA_2 e2).1]; exact L1
    have hb2 := h2.bd
    try simp (disch := omega) only [h2.1.1, h2.1.2.1.all, h2.2.1.1, h2.2.2.1.all, h2.2.2.2.2.1.1.all, h2.2.2.2.2.1.all, h2.2.2.2.2.2.1.1, h2.2.2.2.2.2.1.2, v2, show ¬ (1 = 0) by omega, wr_s, in_nI, clN, ti_z, ti_l, true_and, and_true, kI, zI, rI, kL, zL, rL, kR, zR, nnI, nnL, nnR, iL, iR, lI, lR, exi, exl, exv, eq_self, nI_add, nI_mul, nI_sub, nI_ltI, nI_leI, nI_eq, q0, q1, q2, q3, q4, q5, q6, q10, q100, br_Tr, br_Fa, iI_s, iI_n, bI_q0, bI_q1, or_true, true_or, not_true_eq_false, not_false_eq_true, nI_l, ge64, Nat.lt_irrefl, Nat.add_sub_cancel, Nat.not_lt_zero, lN_0, lN_1e4, lN_1e6, lN_1e3, lN_add, lN_mul, lN_ltI, lN_leI, lN_eqI, lN_i, lcE, lcLe, lcLt, lN_div, q7, q12, q20, q99, q200, q999, q1e4, if_true, if_false, Nat.le_refl, q8, q11, q16, q18, q32, q44, q48, q57, q59, q97, q122, q900]
    refine d142 (w := sW 19) h2 (by decide +kernel) (sW_ok 19 (by omega) (by omega)).1 (fun μ3 v f3 h3 => ?_)
    have F3 := F2.trans (f3.mono (P' := PM M) (fun b q => by rcases q with q | q <;> omega))
    cases e3 : tWd p n (sW 19) t.2 with
    | inl e0 =>
      rw [e3] at q h3
      obtain ⟨rfl, h3⟩ := h3
      try simp (disch := omega) only [wr_s, in_nI, clN, ti_z, ti_l, true_and, and_true, kI, zI, rI, kL, zL, rL, kR, zR, nnI, nnL, nnR, iL, iR, lI, lR, exi, exl, exv, eq_self, nI_add, nI_mul, nI_sub, nI_ltI, nI_leI, nI_eq, q0, q1, q2, q3, q4, q5, q6, q10, q100, br_Tr, br_Fa, iI_s, iI_n, bI_q0, bI_q1, or_true, true_or, not_true_eq_false, not_false_eq_true, nI_l, ge64, Nat.lt_irrefl, Nat.add_sub_cancel, Nat.not_lt_zero, lN_0, lN_1e4, lN_1e6, lN_1e3, lN_add, lN_mul, lN_ltI, lN_leI, lN_eqI, lN_i, lcE, lcLe, lcLt, lN_div, q7, q12, q20, q99, q200, q999, q1e4, if_true, if_false, Nat.le_refl, q8, q11, q16, q18, q32, q44, q48, q57, q59, q97, q122, q900]
      exact q _ _ F3 ⟨rfl, h3⟩
    | inr s3 =>
      rw [e3, bnd_r] at q
      rw [e3] at h3
      obtain ⟨rfl, h3⟩ := h3
      have L3 : pL s3 = pL s := by rw [(tWd_2 e3).1]; exact L2
      have hb3 := h3.bd
      try simp (disch := omega) only [h3.1.1, h3.1.2.1.all, h3.2.1.1, h3.2.2.1.all, h3.2.2.2.2.1.1.all, h3.2.2.2.2.1.all, h3.2.2.2.2.2.1.1, h3.2.2.2.2.2.1.2, show ¬ (1 = 0) by omega, wr_s, in_nI, clN, ti_z, ti_l, true_and, and_true, kI, zI, rI, kL, zL, rL, kR, zR, nnI, nnL, nnR, iL, iR, lI, lR, exi, exl, exv, eq_self, nI_add, nI_mul, nI_sub, nI_ltI, nI_leI, nI_eq, q0, q1, q2, q3, q4, q5, q6, q10, q100, br_Tr, br_Fa, iI_s, iI_n, bI_q0, bI_q1, or_true, true_or, not_true_eq_false, not_false_eq_true, nI_l, ge64, Nat.lt_irrefl, Nat.add_sub_cancel, Nat.not_lt_zero, lN_0, lN_1e4, lN_1e6, lN_1e3, lN_add, lN_mul, lN_ltI, lN_leI, lN_eqI, lN_i, lcE, lcLe, lcLt, lN_div, q7, q12, q20, q99, q200, q999, q1e4, if_true, if_false, Nat.le_refl, q8, q11, q16, q18, q32, q44, q48, q57, q59, q97, q122, q900]
      refine d141 h3 (by omega) (by omega) (fun μ4 v f4 h4 => ?_)
      have F4 := F3.trans (f4.mono (P' := PM M) (fun b q => by rcases q with q | q <;> omega))
      cases e4 : tWh p n 1 11 s3 with
      | inl e0 =>
        rw [e4] at q h4
        obtain ⟨rfl, h4⟩ := h4
        try simp (disch := omega) only [wr_s, in_nI, clN, ti_z, ti_l, true_and, and_true, kI, zI, rI, kL, zL, rL, kR, zR, nnI, nnL, nnR, iL, iR, lI, lR, exi, exl, exv, eq_self, nI_add, nI_mul, nI_sub, nI_ltI, nI_leI, nI_eq, q0, q1, q2, q3, q4, q5, q6, q10, q100, br_Tr, br_Fa, iI_s, iI_n, bI_q0, bI_q1, or_true, true_or, not_true_eq_false, not_false_eq_true, nI_l, ge64, Nat.lt_irrefl, Nat.add_sub_cancel, Nat.not_lt_zero, lN_0, lN_1e4, lN_1e6, lN_1e3, lN_add, lN_mul, lN_ltI, lN_leI, lN_eqI, lN_i, lcE, lcLe, lcLt, lN_div, q7, q12, q20, q99, q200, q999, q1e4, if_true, if_false, Nat.le_refl, q8, q11, q16, q18, q32, q44, q48, q57, q59, q97, q122, q900]
        exact q _ _ F4 ⟨rfl, h4⟩
      | inr m =>
        rw [e4, bnd_r] at q
        rw [e4] at h4
        obtain ⟨rfl, v4, h4⟩ := h4
        have L4 : pL m.2 = pL s := by rw [(tWh_2 e4).1]; exact L3
        have hb4 := h4.bd
        try simp (disch := omega) only [h4.1.1, h4.1.2.1.all, h4.2.1.1, h4.2.2.1.all, h4.2.2.2.2.1.1.all, h4.2.2.2.2.1.all, h4.2.2.2.2.2.1.1, h4.2.2.2.2.2.1.2, v4, show ¬ (1 = 0) by omega, wr_s, in_nI, clN, ti_z, ti_l, true_and, and_true, kI, zI, rI, kL, zL, rL, kR, zR, nnI, nnL, nnR, iL, iR, lI, lR, exi, exl, exv, eq_self, nI_add, nI_mul, nI_sub, nI_ltI, nI_leI, nI_eq, q0, q1, q2, q3, q4, q5, q6, q10, q100, br_Tr, br_Fa, iI_s, iI_n, bI_q0, bI_q1, or_true, true_or, not_true_eq_false, not_false_eq_true, nI_l, ge64, Nat.lt_irrefl, Nat.add_sub_cancel, Nat.not_lt_zero, lN_0, lN_1e4, lN_1e6, lN_1e3, lN_add, lN_mul, lN_ltI, lN_leI, lN_eqI, lN_i, lcE, lcLe, lcLt, lN_div, q7, q12, q20, q99, q200, q999, q1e4, if_true, if_false, Nat.le_refl, q8, q11, q16, q18, q32, q44, q48, q57, q59, q97, q122, q900]
        refine d140 (b := 2) (c := 7) (ws := wHow) hG.1.2.1 (by omega) h4 (fun μ5 v f5 h5 => ?_)
        have F5 := F4.trans (f5.mono (P' := PM M) (fun b q => by rcases q with q | q <;> omega))
        cases e5 : one p n wHow 7 m.2 with
        | inl e0 =>
          rw [e5] at q h5
          obtain ⟨rfl, h5⟩ := h5
          try simp (disch := omega) only [wr_s, in_nI, clN, ti_z, ti_l, true_and, and_true, kI, zI, rI, kL, zL, rL, kR, zR, nnI, nnL, nnR, iL, iR, lI, lR, exi, exl, exv, eq_self, nI_add, nI_mul, nI_sub, nI_ltI, nI_leI, nI_eq, q0, q1, q2, q3, q4, q5, q6, q10, q100, br_Tr, br_Fa, iI_s, iI_n, bI_q0, bI_q1, or_true, true_or, not_true_eq_false, not_false_eq_true, nI_l, ge64, Nat.lt_irrefl, Nat.add_sub_cancel, Nat.not_lt_zero, lN_0, lN_1e4, lN_1e6, lN_1e3, lN_add, lN_mul, lN_ltI, lN_leI, lN_eqI, lN_i, lcE, lcLe, lcLt, lN_div, q7, q12, q20, q99, q200, q999, q1e4, if_true, if_false, Nat.le_refl, q8, q11, q16, q18, q32, q44, q48, q57, q59, q97, q122, q900]
          exact q _ _ F5 ⟨rfl, h5⟩
        | inr w =>
          rw [e5, bnd_r] at q
          rw [e5] at h5
          obtain ⟨rfl, v5, h5⟩ := h5
          have L5 : pL w.2 = pL s := by rw [(one_2 e5).1]; exact L4
          have hb5 := h5.bd
          try simp (disch := omega) only [h5.1.1, h5.1.2.1.all, h5.2.1.1, h5.2.2.1.all, h5.2.2.2.2.1.1.all, h5.2.2.2.2.1.all, h5.2.2.2.2.2.1.1, h5.2.2.2.2.2.1.2, v5, show ¬ (1 = 0) by omega, wr_s, in_nI, clN, ti_z, ti_l, true_and, and_true, kI, zI, rI, kL, zL, rL, kR, zR, nnI, nnL, nnR, iL, iR, lI, lR, exi, exl, exv, eq_self, nI_add, nI_mul, nI_sub, nI_ltI, nI_leI, nI_eq, q0, q1, q2, q3, q4, q5, q6, q10, q100, br_Tr, br_Fa, iI_s, iI_n, bI_q0, bI_q1, or_true, true_or, not_true_eq_false, not_false_eq_true, nI_l, ge64, Nat.lt_irrefl, Nat.add_sub_cancel, Nat.not_lt_zero, lN_0, lN_1e4, lN_1e6, lN_1e3, lN_add, lN_mul, lN_ltI, lN_leI, lN_eqI, lN_i, lcE, lcLe, lcLt, lN_div, q7, q12, q20, q99, q200, q999, q1e4, if_true, if_false, Nat.le_refl, q8, q11, q16, q18, q32, q44, q48, q57, q59, q97, q122, q900]
          have hw7 := (one_2 e5).2.1
          have f0 : FQ P0 μ5 (sI μ5 150 4 (nI 0)) := (FQ.refl P0 _).put rfl
          have h0 := h5.keep f0 (fun b q => Or.inl q)
          have F0 := F5.trans (f0.mono (P' := PM M) (fun b q => by have q : b = 150 := q; omega))
          have fin : ∀ (μ' : ax_M) (s' : PS) (b : Nat), FQ (PM M) μ μ' → RS μ' M n p s' → pL s' = pL s → rBy p n w = .inr (b, s') → ∀ v, (w.1 ≤ 4 → v = nI b) → ax_CV l G 16 [ax_r (some M), ax_i (nI t.1), ax_i (nI m.1), ax_i (nI w.1), ax_i v] μ' (fun m18 => K (nI 1) m18) := by
            intro μ' s' b F' h' L' eb v hv
            rw [eb, bnd_r] at q
            refine f16 (b := b) h' (by rw [L']; omega) hv (fun μ2 f2 h2 => ?_)
            exact q _ _ (F'.trans (f2.mono (fun b q => Or.inl q))) ⟨rfl, h2⟩
          try simp (disch := omega) only [wr_s, in_nI, clN, ti_z, ti_l, true_and, and_true, kI, zI, rI, kL, zL, rL, kR, zR, nnI, nnL, nnR, iL, iR, lI, lR, exi, exl, exv, eq_self, nI_add, nI_mul, nI_sub, nI_ltI, nI_leI, nI_eq, q0, q1, q2, q3, q4, q5, q6, q10, q100, br_Tr, br_Fa, iI_s, iI_n, bI_q0, bI_q1, or_true, true_or, not_true_eq_false, not_false_eq_true, nI_l, ge64, Nat.lt_irrefl, Nat.add_sub_cancel, Nat.not_lt_zero, lN_0, lN_1e4, lN_1e6, lN_1e3, lN_add, lN_mul, lN_ltI, lN_leI, lN_eqI, lN_i, lcE, lcLe, lcLt, lN_div, q7, q12, q20, q99, q200, q999, q1e4, if_true, if_false, Nat.le_refl, q8, q11, q16, q18, q32, q44, q48, q57, q59, q97, q122, q900]
          refine ax_brc (fun c4 => ?_) (fun c4 => ?_)
          · have eb : rBy p n w = tWh p n 1 999 w.2 := if_pos c4
            try simp (disch := omega) only [h0.1.1, h0.1.2.1.all, h0.2.1.1, h0.2.2.1.all, h0.2.2.2.2.1.1.all, h0.2.2.2.2.1.all, h0.2.2.2.2.2.1.1, h0.2.2.2.2.2.1.2, wr_s, in_nI, clN, ti_z, ti_l, true_and, and_true, kI, zI, rI, kL, zL, rL, kR, zR, nnI, nnL, nnR, iL, iR, lI, lR, exi, exl, exv, eq_self, nI_add, nI_mul, nI_sub, nI_ltI, nI_leI, nI_eq, q0, q1, q2, q3, q4, q5, q6, q10, q100, br_Tr, br_Fa, iI_s, iI_n, bI_q0, bI_q1, or_true, true_or, not_true_eq_false, not_false_eq_true, nI_l, ge64, Nat.lt_irrefl, Nat.add_sub_cancel, Nat.not_lt_zero, lN_0, lN_1e4, lN_1e6, lN_1e3, lN_add, lN_mul, lN_ltI, lN_leI, lN_eqI, lN_i, lcE, lcLe, lcLt, lN_div, q7, q12, q20, q99, q200, q999, q1e4, if_true, if_false, Nat.le_refl, q8, q11, q16, q18, q32, q44, q48, q57, q59, q97, q122, q900]
            refine d141 h0 (by omega) (by omega) (fun μ8 v f8 h8 => ?_)
            have F8 := F0.trans (f8.mono (P' := PM M) (fun b q => by rcases q with q | q <;> omega))
            cases e8 : tWh p n 1 999 w.2 with
            | inl e0 =>
              rw [eb, e8] at q
              rw [e8] at h8
              obtain ⟨rfl, h8⟩ := h8
              try simp (disch := omega) only [wr_s, in_nI, clN, ti_z, ti_l, true_and, and_true, kI, zI, rI, kL, zL, rL, kR, zR, nnI, nnL, nnR, iL, iR, lI, lR, exi, exl, exv, eq_self, nI_add, nI_mul, nI_sub, nI_ltI, nI_leI, nI_eq, q0, q1, q2, q3, q4, q5, q6, q10, q100, br_Tr, br_Fa, iI_s, iI_n, bI_q0, bI_q1, or_true, true_or, not_true_eq_false, not_false_eq_true, nI_l, ge64, Nat.lt_irrefl, Nat.add_sub_cancel, Nat.not_lt_zero, lN_0, lN_1e4, lN_1e6, lN_1e3, lN_add, lN_mul, lN_ltI, lN_leI, lN_eqI, lN_i, lcE, lcLe, lcLt, lN_div, q7, q12, q20, q99, q200, q999, q1e4, if_true, if_false, Nat.le_refl, q8, q11, q16, q18, q32, q44, q48, q57, q59, q97, q122, q900]
              exact q _ _ F8 ⟨rfl, h8⟩
            | inr b =>
              rw [e8] at h8
              obtain ⟨rfl, v8, h8⟩ := h8
              have L8 : pL b.2 = pL s := by rw [(tWh_2 e8).1]; exact L5
              try simp (disch := omega) only [h8.1.1, h8.1.2.1.all, h8.2.1.1, h8.2.2.1.all, h8.2.2.2.2.1.1.all, h8.2.2.2.2.1.all, h8.2.2.2.2.2.1.1, h8.2.2.2.2.2.1.2, v8, show ¬ (1 = 0) by omega, wr_s, in_nI, clN, ti_z, ti_l, true_and, and_true, kI, zI, rI, kL, zL, rL, kR, zR, nnI, nnL, nnR, iL, iR, lI, lR, exi, exl, exv, eq_self, nI_add, nI_mul, nI_sub, nI_ltI, nI_leI, nI_eq, q0, q1, q2, q3, q4, q5, q6, q10, q100, br_Tr, br_Fa, iI_s, iI_n, bI_q0, bI_q1, or_true, true_or, not_true_eq_false, not_false_eq_true, nI_l, ge64, Nat.lt_irrefl, Nat.add_sub_cancel, Nat.not_lt_zero, lN_0, lN_1e4, lN_1e6, lN_1e3, lN_add, lN_mul, lN_ltI, lN_leI, lN_eqI, lN_i, lcE, lcLe, lcLt, lN_div, q7, q12, q20, q99, q200, q999, q1e4, if_true, if_false, Nat.le_refl, q8, q11, q16, q18, q32, q44, q48, q57, q59, q97, q122, q900]
              exact fin _ b.2 b.1 F8 h8 L8 (by rw [eb, e8]) _ (fun _ => rfl)
          · have eb : rBy p n w = .inr (0, w.2) := if_neg c4
            try simp (disch := omega) only [h5.1.1, h5.1.2.1.all, h5.2.1.1, h5.2.2.1.all, h5.2.2.2.2.1.1.all, h5.2.2.2.2.1.all, h5.2.2.2.2.2.1.1, h5.2.2.2.2.2.1.2, wr_s, in_nI, clN, ti_z, ti_l, true_and, and_true, kI, zI, rI, kL, zL, rL, kR, zR, nnI, nnL, nnR, iL, iR, lI, lR, exi, exl, exv, eq_self, nI_add, nI_mul, nI_sub, nI_ltI, nI_leI, nI_eq, q0, q1, q2, q3, q4, q5, q6, q10, q100, br_Tr, br_Fa, iI_s, iI_n, bI_q0, bI_q1, or_true, true_or, not_true_eq_false, not_false_eq_true, nI_l, ge64, Nat.lt_irrefl, Nat.add_sub_cancel, Nat.not_lt_zero, lN_0, lN_1e4, lN_1e6, lN_1e3, lN_add, lN_mul, lN_ltI, lN_leI, lN_eqI, lN_i, lcE, lcLe, lcLt, lN_div, q7, q12, q20, q99, q200, q999, q1e4, if_true, if_false, Nat.le_refl, q8, q11, q16, q18, q32, q44, q48, q57, q59, q97, q122, q900]
            exact fin _ w.2 0 F0 h0 L5 eb _ (fun q => absurd q c4)
def RW (μ : ax_M) (v : Int32) (M n : Nat) (p : Nat → Nat) (c : Nat) (x : Rs ((Nat → Nat) × PS)) : Prop := match x with
  | .inl e => v = nI 0 ∧ FS μ e
  | .inr r => v = nI 1 ∧ RS μ M n p r.2 ∧ ∀ g, g < 4 → gI μ c g = nI (r.1 g)
theorem d176 {c : Nat} {K : Int32 → ax_M → Prop} (hG : GC G) (h : RS μ M n p s) (hc : c = nHo (pL s)) (hc3 : c < 3) (hg : ∀ i, i < (pM s).1 → ((pM s).2 i).2.1 = 0 → ((pM s).2 i).2.2 < 4) (q : ∀ μ' v, FQ (fun b => b = 150 ∨ b = 155 ∨ b = M + 34 + 2 * c) μ μ' → RW μ' v M n p (M + 34 + 2 * c) (rWa p n 5 (fun _ => 0) s) → K v μ') : ax_CI l G 176 [ax_r (some 150), ax_r (some (M + 33 + 2 * c))] μ K := by
  have hb := h.bd
  have loop : ∀ f r, f + r = 5 → ∀ (μr : ax_M) (w : Nat → Nat) (sr : PS), RS μr M n p sr → sr.2 = s.2 → FQ (fun b => b = 150 ∨ b = 155 ∨ b = M + 34 + 2 * c) μ μr → (∀ g, g < 4 → gI μr (M + 34 + 2 * c) g = nI (w g)) → (∀ g, w g ≤ 99) → (∀ μ' v, FQ (fun b => b = 150 ∨ b = 155 ∨ b = M + 34 + 2 * c) μ μ' → RW μ' v M n p (M + 34 + 2 * c) (rWa p n f w sr) → K v μ') → (ax_Rw l G ax_h176 (ax_E G ax_h176 (fun x μ' => ∃ v : Int32, x = some (ax_i v) ∧ K v μ')) 22 [(0, ax_r (some 150)), (1, ax_r (some (M + 33 + 2 * c))), (2, ax_i (nI r))] [] 0 0 μr) := by
    intro f
    induction f with
    | zero =>
      intro r hr μr w sr hs hs2 fr hw hw9 q
      have : r = 5 := by omega
      subst this
      refine sg176_22 l G _ 150 _ _ _ ?_
      try simp (disch := omega) only [hs.1.1, hs.1.2.1.all, hs.2.1.1, hs.2.2.1.all, hs.2.2.2.2.1.1.all, hs.2.2.2.2.1.all, hs.2.2.2.2.2.1.1, hs.2.2.2.2.2.1.2, show ¬ (5 ≤ 4) by omega, wr_s, in_nI, clN, ti_z, ti_l, true_and, and_true, kI, zI, rI, kL, zL, rL, kR, zR, nnI, nnL, nnR, iL, iR, lI, lR, exi, exl, exv, eq_self, nI_add, nI_mul, nI_sub, nI_ltI, nI_leI, nI_eq, q0, q1, q2, q3, q4, q5, q6, q10, q100, br_Tr, br_Fa, iI_s, iI_n, bI_q0, bI_q1, or_true, true_or, not_true_eq_false, not_false_eq_true, nI_l, ge64, Nat.lt_irrefl, Nat.add_sub_cancel, Nat.not_lt_zero, lN_0, lN_1e4, lN_1e6, lN_1e3, lN_add, lN_mul, lN_ltI, lN_leI, lN_eqI, lN_i, lcE, lcLe, lcLt, lN_div, q7, q12, q20, q99, q200, q999, q1e4, if_true, if_false, Nat.le_refl, q8, q11, q16, q18, q32, q44, q48, q57, q59, q97, q122, q900]
      refine d32 hs (fun μ1 f1 h1 => ?_)
      try simp (disch := omega) only [wr_s, in_nI, clN, ti_z, ti_l, true_and, and_true, kI, zI, rI, kL, zL, rL, kR, zR, nnI, nnL, nnR, iL, iR, lI, lR, exi, exl, exv, eq_self, nI_add, nI_mul, nI_sub, nI_ltI, nI_leI, nI_eq, q0, q1, q2, q3, q4, q5, q6, q10, q100, br_Tr, br_Fa, iI_s, iI_n, bI_q0, bI_q1, or_true, true_or, not_true_eq_false, not_false_eq_true, nI_l, ge64, Nat.lt_irrefl, Nat.add_sub_cancel, Nat.not_lt_zero, lN_0, lN_1e4, lN_1e6, lN_1e3, lN_add, lN_mul, lN_ltI, lN_leI, lN_eqI, lN_i, lcE, lcLe, lcLt, lN_div, q7, q12, q20, q99, q200, q999, q1e4, if_true, if_false, Nat.le_refl, q8, q11, q16, q18, q32, q44, q48, q57, q59, q97, q122, q900]
      exact q _ _ (fr.trans (f1.mono (fun b q => Or.inl q))) ⟨rfl, h1⟩
    | succ f ih =>
      intro r hr μr w sr hs hs2 fr hw hw9 q
      unfold rWa at q
      have L : pL sr = pL s := by show sr.2.1 = _; rw [hs2]
      have N : pM sr = pM s := by show sr.2.2 = _; rw [hs2]
      have hbr := hs.bd
      refine sg176_22 l G _ 150 _ _ _ ?_
      try simp (disch := omega) only [hs.1.1, hs.1.2.1.all, hs.2.1.1, hs.2.2.1.all, hs.2.2.2.2.1.1.all, hs.2.2.2.2.1.all, hs.2.2.2.2.2.1.1, hs.2.2.2.2.2.1.2, show r ≤ 4 by omega, wr_s, in_nI, clN, ti_z, ti_l, true_and, and_true, kI, zI, rI, kL, zL, rL, kR, zR, nnI, nnL, nnR, iL, iR, lI, lR, exi, exl, exv, eq_self, nI_add, nI_mul, nI_sub, nI_ltI, nI_leI, nI_eq, q0, q1, q2, q3, q4, q5, q6, q10, q100, br_Tr, br_Fa, iI_s, iI_n, bI_q0, bI_q1, or_true, true_or, not_true_eq_false, not_false_eq_true, nI_l, ge64, Nat.lt_irrefl, Nat.add_sub_cancel, Nat.not_lt_zero, lN_0, lN_1e4, lN_1e6, lN_1e3, lN_add, lN_mul, lN_ltI, lN_leI, lN_eqI, lN_i, lcE, lcLe, lcLt, lN_div, q7, q12, q20, q99, q200, q999, q1e4, if_true, if_false, Nat.le_refl, q8, q11, q16, q18, q32, q44, q48, q57, q59, q97, q122, q900]
      refine d100 hG hs (by omega) (fun μ1 v f1 h1 => ?_)
      have F1 := fr.trans (f1.mono (P' := fun b => b = 150 ∨ b = 155 ∨ b = M + 34 + 2 * c) (fun b q => Or.inl q))
      cases e1 : tld 0 sr with
      | inl e0 =>
        rw [e1] at q h1
        obtain ⟨rfl, h1⟩ := h1
        try simp (disch := omega) only [wr_s, in_nI, clN, ti_z, ti_l, true_and, and_true, kI, zI, rI, kL, zL, rL, kR, zR, nnI, nnL, nnR, iL, iR, lI, lR, exi, exl, exv, eq_self, nI_add, nI_mul, nI_sub, nI_ltI, nI_leI, nI_eq, q0, q1, q2, q3, q4, q5, q6, q10, q100, br_Tr, br_Fa, iI_s, iI_n, bI_q0, bI_q1, or_true, true_or, not_true_eq_false, not_false_eq_true, nI_l, ge64, Nat.lt_irrefl, Nat.add_sub_cancel, Nat.not_lt_zero, lN_0, lN_1e4, lN_1e6, lN_1e3, lN_add, lN_mul, lN_ltI, lN_leI, lN_eqI, lN_i, lcE, lcLe, lcLt, lN_div, q7, q12, q20, q99, q200, q999, q1e4, if_true, if_false, Nat.le_refl, q8, q11, q16, q18, q32, q44, q48, q57, q59, q97, q122, q900]
        exact q _ _ F1 ⟨rfl, h1⟩
      | inr g =>
        rw [e1, bnd_r] at q
        rw [e1] at h1
        obtain ⟨rfl, v1, h1⟩ := h1
        have hg4 : g < 4 := by
          obtain ⟨-, i, hi, so, eg⟩ := tld_2 e1
          rw [N] at hi so eg
          rw [eg]; exact hg i hi so
        have hw1 : ∀ g, g < 4 → gI μ1 (M + 34 + 2 * c) g = nI (w g) := fun g hg => by rw [f1.I (by unfold P0; omega)]; exact hw g hg
        have hwg := hw9 g
        try simp (disch := omega) only [h1.1.1, h1.1.2.1.all, h1.2.1.1, h1.2.2.1.all, h1.2.2.2.2.1.1.all, h1.2.2.2.2.1.all, h1.2.2.2.2.2.1.1, h1.2.2.2.2.2.1.2, v1, hw1, show ¬ (1 = 0) by omega, wr_s, in_nI, clN, ti_z, ti_l, true_and, and_true, kI, zI, rI, kL, zL, rL, kR, zR, nnI, nnL, nnR, iL, iR, lI, lR, exi, exl, exv, eq_self, nI_add, nI_mul, nI_sub, nI_ltI, nI_leI, nI_eq, q0, q1, q2, q3, q4, q5, q6, q10, q100, br_Tr, br_Fa, iI_s, iI_n, bI_q0, bI_q1, or_true, true_or, not_true_eq_false, not_false_eq_true, nI_l, ge64, Nat.lt_irrefl, Nat.add_sub_cancel, Nat.not_lt_zero, lN_0, lN_1e4, lN_1e6, lN_1e3, lN_add, lN_mul, lN_ltI, lN_leI, lN_eqI, lN_i, lcE, lcLe, lcLt, lN_div, q7, q12, q20, q99, q200, q999, q1e4, if_true, if_false, Nat.le_refl, q8, q11, q16, q18, q32, q44, q48, q57, q59, q97, q122, q900]
        refine ax_brc (fun c1 => ?_) (fun c1 => ?_)
        · rw [if_neg (by omega)] at q
          refine e105 h1 (fun μ2 f2 h2 => ?_)
          have F2 := F1.trans (f2.mono (P' := fun b => b = 150 ∨ b = 155 ∨ b = M + 34 + 2 * c) (fun b q => Or.inr (Or.inl q)))
          have hb2 := h2.bd
          try simp (disch := omega) only [h2.1.1, h2.1.2.1.all, h2.2.1.1, h2.2.2.1.all, h2.2.2.2.2.1.1.all, h2.2.2.2.2.1.all, h2.2.2.2.2.2.1.1, h2.2.2.2.2.2.1.2, wr_s, in_nI, clN, ti_z, ti_l, true_and, and_true, kI, zI, rI, kL, zL, rL, kR, zR, nnI, nnL, nnR, iL, iR, lI, lR, exi, exl, exv, eq_self, nI_add, nI_mul, nI_sub, nI_ltI, nI_leI, nI_eq, q0, q1, q2, q3, q4, q5, q6, q10, q100, br_Tr, br_Fa, iI_s, iI_n, bI_q0, bI_q1, or_true, true_or, not_true_eq_false, not_false_eq_true, nI_l, ge64, Nat.lt_irrefl, Nat.add_sub_cancel, Nat.not_lt_zero, lN_0, lN_1e4, lN_1e6, lN_1e3, lN_add, lN_mul, lN_ltI, lN_leI, lN_eqI, lN_i, lcE, lcLe, lcLt, lN_div, q7, q12, q20, q99, q200, q999, q1e4, if_true, if_false, Nat.le_refl, q8, q11, q16, q18, q32, q44, q48, q57, q59, q97, q122, q900]
          refine d141 h2 (by omega) (by omega) (fun μ3 v f3 h3 => ?_)
          have F3 := F2.trans (f3.mono (P' := fun b => b = 150 ∨ b = 155 ∨ b = M + 34 + 2 * c) (fun b q => by rcases q with q | q; exact Or.inl q; exact Or.inr (Or.inl q)))
          cases e3 : tWh p n 1 99 (ad p n sr) with
          | inl e0 =>
            rw [e3] at q h3
            obtain ⟨rfl, h3⟩ := h3
            try simp (disch := omega) only [wr_s, in_nI, clN, ti_z, ti_l, true_and, and_true, kI, zI, rI, kL, zL, rL, kR, zR, nnI, nnL, nnR, iL, iR, lI, lR, exi, exl, exv, eq_self, nI_add, nI_mul, nI_sub, nI_ltI, nI_leI, nI_eq, q0, q1, q2, q3, q4, q5, q6, q10, q100, br_Tr, br_Fa, iI_s, iI_n, bI_q0, bI_q1, or_true, true_or, not_true_eq_false, not_false_eq_true, nI_l, ge64, Nat.lt_irrefl, Nat.add_sub_cancel, Nat.not_lt_zero, lN_0, lN_1e4, lN_1e6, lN_1e3, lN_add, lN_mul, lN_ltI, lN_leI, lN_eqI, lN_i, lcE, lcLe, lcLt, lN_div, q7, q12, q20, q99, q200, q999, q1e4, if_true, if_false, Nat.le_refl, q8, q11, q16, q18, q32, q44, q48, q57, q59, q97, q122, q900]
            exact q _ _ F3 ⟨rfl, h3⟩
          | inr v =>
            rw [e3, bnd_r] at q
            rw [e3] at h3
            obtain ⟨rfl, v3, h3⟩ := h3
            have hv := tWh_2 e3
            have L3 : pL v.2 = pL s := by rw [hv.1]; exact L
            have S3 : v.2.2 = s.2 := by rw [hv.1]; exact hs2
            have hb3 := h3.bd
            have f4 : FQ (fun b => b = M + 34 + 2 * c) μ3 (sI μ3 (M + 34 + 2 * c) g (nI v.1)) := (FQ.refl (fun b => b = M + 34 + 2 * c) _).put rfl
            have h4 := h3.keep f4 (fun b q => Or.inr (by rw [L3]; unfold Sl; omega))
            have F4 := F3.trans (f4.mono (P' := fun b => b = 150 ∨ b = 155 ∨ b = M + 34 + 2 * c) (fun b q => Or.inr (Or.inr q)))
            have hw4 : ∀ k, k < 4 → gI (sI μ3 (M + 34 + 2 * c) g (nI v.1)) (M + 34 + 2 * c) k = nI (upW w g v.1 k) := by
              intro k hk
              unfold upW
              by_cases e : k = g
              · rw [if_pos e, e]; exact iI_s _ _ _ _
              · rw [if_neg e, iI_n (Or.inr e), f3.I (by unfold P05; omega), f2.I (by omega)]; exact hw1 k hk
            have hw5 : ∀ k, upW w g v.1 k ≤ 99 := by
              intro k
              unfold upW
              split
              · exact hv.2.2.1
              · exact hw9 k
            try simp (disch := omega) only [h3.1.1, h3.1.2.1.all, h3.2.1.1, h3.2.2.1.all, h3.2.2.2.2.1.1.all, h3.2.2.2.2.1.all, h3.2.2.2.2.2.1.1, h3.2.2.2.2.2.1.2, v3, show ¬ (1 = 0) by omega, wr_s, in_nI, clN, ti_z, ti_l, true_and, and_true, kI, zI, rI, kL, zL, rL, kR, zR, nnI, nnL, nnR, iL, iR, lI, lR, exi, exl, exv, eq_self, nI_add, nI_mul, nI_sub, nI_ltI, nI_leI, nI_eq, q0, q1, q2, q3, q4, q5, q6, q10, q100, br_Tr, br_Fa, iI_s, iI_n, bI_q0, bI_q1, or_true, true_or, not_true_eq_false, not_false_eq_true, nI_l, ge64, Nat.lt_irrefl, Nat.add_sub_cancel, Nat.not_lt_zero, lN_0, lN_1e4, lN_1e6, lN_1e3, lN_add, lN_mul, lN_ltI, lN_leI, lN_eqI, lN_i, lcE, lcLe, lcLt, lN_div, q7, q12, q20, q99, q200, q999, q1e4, if_true, if_false, Nat.le_refl, q8, q11, q16, q18, q32, q44, q48, q57, q59, q97, q122, q900]
            refine ax_brc (fun c4 => ?_) (fun c4 => ?_)
            · rw [if_pos c4] at q
              refine e105 h4 (fun μ5 f5 h5 => ?_)
              refine ih (r + 1) (by omega) μ5 _ _ h5 S3 (F4.trans (f5.mono (fun b q => Or.inr (Or.inl q)))) (fun k hk => ?_) hw5 q
              rw [f5.I (by omega)]; exact hw4 k hk
            · rw [if_neg c4] at q
              exact q _ _ F4 ⟨rfl, h4, hw4⟩
        · rw [if_pos (by omega)] at q
          refine d32 h1 (fun μ2 f2 h2 => ?_)
          try simp (disch := omega) only [wr_s, in_nI, clN, ti_z, ti_l, true_and, and_true, kI, zI, rI, kL, zL, rL, kR, zR, nnI, nnL, nnR, iL, iR, lI, lR, exi, exl, exv, eq_self, nI_add, nI_mul, nI_sub, nI_ltI, nI_leI, nI_eq, q0, q1, q2, q3, q4, q5, q6, q10, q100, br_Tr, br_Fa, iI_s, iI_n, bI_q0, bI_q1, or_true, true_or, not_true_eq_false, not_false_eq_true, nI_l, ge64, Nat.lt_irrefl, Nat.add_sub_cancel, Nat.not_lt_zero, lN_0, lN_1e4, lN_1e6, lN_1e3, lN_add, lN_mul, lN_ltI, lN_leI, lN_eqI, lN_i, lcE, lcLe, lcLt, lN_div, q7, q12, q20, q99, q200, q999, q1e4, if_true, if_false, Nat.le_refl, q8, q11, q16, q18, q32, q44, q48, q57, q59, q97, q122, q900]
          exact q _ _ (F1.trans (f2.mono (fun b q => Or.inl q))) ⟨rfl, h2⟩
  refine ax_Ct.of (by decide) (Nat.le_of_ble_eq_true rfl) (sg176_0 l G _ 150 _ _ ?_)
  refine up_to (P := fun g => ∀ μg, FQ (fun b => b = M + 34 + 2 * c) μ μg → (∀ k, k < g → gI μg (M + 34 + 2 * c) k = nI 0) → (ax_Rw l G ax_h176 (ax_E G ax_h176 (fun x μ' => ∃ v : Int32, x = some (ax_i v) ∧ K v μ')) 2 [(0, ax_r (some 150)), (1, ax_r (some (M + 33 + 2 * c))), (2, ax_i (nI g))] [] 0 0 μg)) 4 (fun μg fg hz => ?_) (fun g hg4 ih μg fg hz => ?_) 0 (Nat.zero_le _) μ (FQ.refl _ _) (fun k hk => by omega)
  · have hs := h.keep fg (fun b q => Or.inr (by unfold Sl; omega))
    refine sg176_2 l G _ 150 _ _ _ ?_
    try simp (disch := omega) only [hs.1.1, hs.1.2.1.all, hs.2.1.1, hs.2.2.1.all, hs.2.2.2.2.1.1.all, hs.2.2.2.2.1.all, hs.2.2.2.2.2.1.1, hs.2.2.2.2.2.1.2, wr_s, in_nI, clN, ti_z, ti_l, true_and, and_true, kI, zI, rI, kL, zL, rL, kR, zR, nnI, nnL, nnR, iL, iR, lI, lR, exi, exl, exv, eq_self, nI_add, nI_mul, nI_sub, nI_ltI, nI_leI, nI_eq, q0, q1, q2, q3, q4, q5, q6, q10, q100, br_Tr, br_Fa, iI_s, iI_n, bI_q0, bI_q1, or_true, true_or, not_true_eq_false, not_false_eq_true, nI_l, ge64, Nat.lt_irrefl, Nat.add_sub_cancel, Nat.not_lt_zero, lN_0, lN_1e4, lN_1e6, lN_1e3, lN_add, lN_mul, lN_ltI, lN_leI, lN_eqI, lN_i, lcE, lcLe, lcLt, lN_div, q7, q12, q20, q99, q200, q999, q1e4, if_true, if_false, Nat.le_refl, q8, q11, q16, q18, q32, q44, q48, q57, q59, q97, q122, q900]
    exact loop 5 0 (by omega) μg (fun _ => 0) s hs rfl (fg.mono (fun b q => Or.inr (Or.inr q))) hz (fun _ => Nat.zero_le _) q
  · have hs := h.keep fg (fun b q => Or.inr (by unfold Sl; omega))
    refine sg176_2 l G _ 150 _ _ _ ?_
    try simp (disch := omega) only [hs.1.1, hs.1.2.1.all, hs.2.1.1, hs.2.2.1.all, hs.2.2.2.2.1.1.all, hs.2.2.2.2.1.all, hs.2.2.2.2.2.1.1, hs.2.2.2.2.2.1.2, hg4, wr_s, in_nI, clN, ti_z, ti_l, true_and, and_true, kI, zI, rI, kL, zL, rL, kR, zR, nnI, nnL, nnR, iL, iR, lI, lR, exi, exl, exv, eq_self, nI_add, nI_mul, nI_sub, nI_ltI, nI_leI, nI_eq, q0, q1, q2, q3, q4, q5, q6, q10, q100, br_Tr, br_Fa, iI_s, iI_n, bI_q0, bI_q1, or_true, true_or, not_true_eq_false, not_false_eq_true, nI_l, ge64, Nat.lt_irrefl, Nat.add_sub_cancel, Nat.not_lt_zero, lN_0, lN_1e4, lN_1e6, lN_1e3, lN_add, lN_mul, lN_ltI, lN_leI, lN_eqI, lN_i, lcE, lcLe, lcLt, lN_div, q7, q12, q20, q99, q200, q999, q1e4, if_true, if_false, Nat.le_refl, q8, q11, q16, q18, q32, q44, q48, q57, q59, q97, q122, q900]
    refine ih _ (fg.put rfl) (lt_s (fun k hk => ?_) ?_)
    · rw [iI_n (by omega)]; exact hz k hk
    · exact iI_s _ _ _ _
theorem d186 {K : Int32 → ax_M → Prop} (hG : GC G) (h : RS μ M n p s) (hm : nHo (pL s) < 3 → (pM s).1 < 18) (hI : NI (pL s) (pM s)) (q : ∀ μ' v, FQ (PM M) μ μ' → RR μ' v M n p (rHo p n s) → K v μ') : ax_CI l G 186 [ax_r (some 150)] μ K := by
  have hb := h.bd
  unfold rHo at q
  refine ax_Ct.of (by decide) (Nat.le_of_ble_eq_true rfl) (sg186_0 l G _ 150 _ ?_)
  try simp (disch := omega) only [h.1.1, h.1.2.1.all, h.2.1.1, h.2.2.1.all, h.2.2.2.2.1.1.all, h.2.2.2.2.1.all, h.2.2.2.2.2.1.1, h.2.2.2.2.2.1.2, wr_s, in_nI, clN, ti_z, ti_l, true_and, and_true, kI, zI, rI, kL, zL, rL, kR, zR, nnI, nnL, nnR, iL, iR, lI, lR, exi, exl, exv, eq_self, nI_add, nI_mul, nI_sub, nI_ltI, nI_leI, nI_eq, q0, q1, q2, q3, q4, q5, q6, q10, q100, br_Tr, br_Fa, iI_s, iI_n, bI_q0, bI_q1, or_true, true_or, not_true_eq_false, not_false_eq_true, nI_l, ge64, Nat.lt_irrefl, Nat.add_sub_cancel, Nat.not_lt_zero, lN_0, lN_1e4, lN_1e6, lN_1e3, lN_add, lN_mul, lN_ltI, lN_leI, lN_eqI, lN_i, lcE, lcLe, lcLt, lN_div, q7, q12, q20, q99, q200, q999, q1e4, if_true, if_false, Nat.le_refl, q8, q11, q16, q18, q32, q44, q48, q57, q59, q97, q122, q900]
  refine ax_brc (fun c => ?_) (fun c => ?_)
  rotate_left
  · rw [if_pos (by omega)] at q
    refine d32 h (fun μ1 f1 h1 => ?_)
    try simp (disch := omega) only [wr_s, in_nI, clN, ti_z, ti_l, true_and, and_true, kI, zI, rI, kL, zL, rL, kR, zR, nnI, nnL, nnR, iL, iR, lI, lR, exi, exl, exv, eq_self, nI_add, nI_mul, nI_sub, nI_ltI, nI_leI, nI_eq, q0, q1, q2, q3, q4, q5, q6, q10, q100, br_Tr, br_Fa, iI_s, iI_n, bI_q0, bI_q1, or_true, true_or, not_true_eq_false, not_false_eq_true, nI_l, ge64, Nat.lt_irrefl, Nat.add_sub_cancel, Nat.not_lt_zero, lN_0, lN_1e4, lN_1e6, lN_1e3, lN_add, lN_mul, lN_ltI, lN_leI, lN_eqI, lN_i, lcE, lcLe, lcLt, lN_div, q7, q12, q20, q99, q200, q999, q1e4, if_true, if_false, Nat.le_refl, q8, q11, q16, q18, q32, q44, q48, q57, q59, q97, q122, q900]
    exact q _ _ (f1.mono (fun b q => by have q : b = 150 := q; omega)) ⟨rfl, h1⟩
  rw [if_neg (by omega)] at q
  try simp (disch := omega) only [h.1.1, h.1.2.1.all, h.2.1.1, h.2.2.1.all, h.2.2.2.2.1.1.all, h.2.2.2.2.1.all, h.2.2.2.2.2.1.1, h.2.2.2.2.2.1.2, wr_s, in_nI, clN, ti_z, ti_l, true_and, and_true, kI, zI, rI, kL, zL, rL, kR, zR, nnI, nnL, nnR, iL, iR, lI, lR, exi, exl, exv, eq_self, nI_add, nI_mul, nI_sub, nI_ltI, nI_leI, nI_eq, q0, q1, q2, q3, q4, q5, q6, q10, q100, br_Tr, br_Fa, iI_s, iI_n, bI_q0, bI_q1, or_true, true_or, not_true_eq_false, not_false_eq_true, nI_l, ge64, Nat.lt_irrefl, Nat.add_sub_cancel, Nat.not_lt_zero, lN_0, lN_1e4, lN_1e6, lN_1e3, lN_add, lN_mul, lN_ltI, lN_leI, lN_eqI, lN_i, lcE, lcLe, lcLt, lN_div, q7, q12, q20, q99, q200, q999, q1e4, if_true, if_false, Nat.le_refl, q8, q11, q16, q18, q32, q44, q48, q57, q59, q97, q122, q900]
  refine e105 h (fun μ1 f1 h1 => ?_)
  have F1 := f1.mono (P' := PM M) (fun b q => by have q : b = 155 := q; omega)
  have L1 : pL (ad p n s) = pL s := rfl
  have hb1 := h1.bd
  try simp (disch := omega) only [h1.1.1, h1.1.2.1.all, h1.2.1.1, h1.2.2.1.all, h1.2.2.2.2.1.1.all, h1.2.2.2.2.1.all, h1.2.2.2.2.2.1.1, h1.2.2.2.2.2.1.2, wr_s, in_nI, clN, ti_z, ti_l, true_and, and_true, kI, zI, rI, kL, zL, rL, kR, zR, nnI, nnL, nnR, iL, iR, lI, lR, exi, exl, exv, eq_self, nI_add, nI_mul, nI_sub, nI_ltI, nI_leI, nI_eq, q0, q1, q2, q3, q4, q5, q6, q10, q100, br_Tr, br_Fa, iI_s, iI_n, bI_q0, bI_q1, or_true, true_or, not_true_eq_false, not_false_eq_true, nI_l, ge64, Nat.lt_irrefl, Nat.add_sub_cancel, Nat.not_lt_zero, lN_0, lN_1e4, lN_1e6, lN_1e3, lN_add, lN_mul, lN_ltI, lN_leI, lN_eqI, lN_i, lcE, lcLe, lcLt, lN_div, q7, q12, q20, q99, q200, q999, q1e4, if_true, if_false, Nat.le_refl, q8, q11, q16, q18, q32, q44, q48, q57, q59, q97, q122, q900]
  refine d143 (so := 2) (nu := nHo (pL s)) hG h1 (hm (by omega)) (by omega) (by omega) (fun μ2 v f2 h2 => ?_)
  have F2 := F1.trans (f2.mono (P' := PM M) (fun b q => by have q : 150 ≤ b ∧ b < 156 := q; omega))
  cases e2 : nmd p n 2 (nHo (pL s)) (ad p n s) with
  | inl e0 =>
    rw [e2] at q h2
    obtain ⟨rfl, h2⟩ := h2
    try simp (disch := omega) only [wr_s, in_nI, clN, ti_z, ti_l, true_and, and_true, kI, zI, rI, kL, zL, rL, kR, zR, nnI, nnL, nnR, iL, iR, lI, lR, exi, exl, exv, eq_self, nI_add, nI_mul, nI_sub, nI_ltI, nI_leI, nI_eq, q0, q1, q2, q3, q4, q5, q6, q10, q100, br_Tr, br_Fa, iI_s, iI_n, bI_q0, bI_q1, or_true, true_or, not_true_eq_false, not_false_eq_true, nI_l, ge64, Nat.lt_irrefl, Nat.add_sub_cancel, Nat.not_lt_zero, lN_0, lN_1e4, lN_1e6, lN_1e3, lN_add, lN_mul, lN_ltI, lN_leI, lN_eqI, lN_i, lcE, lcLe, lcLt, lN_div, q7, q12, q20, q99, q200, q999, q1e4, if_true, if_false, Nat.le_refl, q8, q11, q16, q18, q32, q44, q48, q57, q59, q97, q122, q900]
    exact q _ _ F2 ⟨rfl, h2⟩
  | inr s2 =>
    rw [e2, bnd_r] at q
    rw [e2] at h2
    obtain ⟨rfl, h2⟩ := h2
    have L2 : pL s2 = pL s := by rw [(nmd_2 e2).1]; rfl
    have hb2 := h2.bd
    try simp (disch := omega) only [h2.1.1, h2.1.2.1.all, h2.2.1.1, h2.2.2.1.all, h2.2.2.2.2.1.1.all, h2.2.2.2.2.1.all, h2.2.2.2.2.2.1.1, h2.2.2.2.2.2.1.2, show ¬ (1 = 0) by omega, wr_s, in_nI, clN, ti_z, ti_l, true_and, and_true, kI, zI, rI, kL, zL, rL, kR, zR, nnI, nnL, nnR, iL, iR, lI, lR, exi, exl, exv, eq_self, nI_add, nI_mul, nI_sub, nI_ltI, nI_leI, nI_eq, q0, q1, q2, q3, q4, q5, q6, q10, q100, br_Tr, br_Fa, iI_s, iI_n, bI_q0, bI_q1, or_true, true_or, not_true_eq_false, not_false_eq_true, nI_l, ge64, Nat.lt_irrefl, Nat.add_sub_cancel, Nat.not_lt_zero, lN_0, lN_1e4, lN_1e6, lN_1e3, lN_add, lN_mul, lN_ltI, lN_leI, lN_eqI, lN_i, lcE, lcLe, lcLt, lN_div, q7, q12, q20, q99, q200, q999, q1e4, if_true, if_false, Nat.le_refl, q8, q11, q16, q18, q32, q44, q48, q57, q59, q97, q122, q900]
    have N2 : pM s2 = nAdd (pM s) (tW (ad p n s)) 2 (nHo (pL s)) := by rw [(nmd_2 e2).1]; rfl
    refine d142 (w := sW 25) h2 (by decide +kernel) (sW_ok 25 (by omega) (by omega)).1 (fun μ3 v f3 h3 => ?_)
    have F3 := F2.trans (f3.mono (P' := PM M) (fun b q => by rcases q with q | q <;> omega))
    cases e3 : tWd p n (sW 25) s2 with
    | inl e0 =>
      rw [e3] at q h3
      obtain ⟨rfl, h3⟩ := h3
      try simp (disch := omega) only [wr_s, in_nI, clN, ti_z, ti_l, true_and, and_true, kI, zI, rI, kL, zL, rL, kR, zR, nnI, nnL, nnR, iL, iR, lI, lR, exi, exl, exv, eq_self, nI_add, nI_mul, nI_sub, nI_ltI, nI_leI, nI_eq, q0, q1, q2, q3, q4, q5, q6, q10, q100, br_Tr, br_Fa, iI_s, iI_n, bI_q0, bI_q1, or_true, true_or, not_true_eq_false, not_false_eq_true, nI_l, ge64, Nat.lt_irrefl, Nat.add_sub_cancel, Nat.not_lt_zero, lN_0, lN_1e4, lN_1e6, lN_1e3, lN_add, lN_mul, lN_ltI, lN_leI, lN_eqI, lN_i, lcE, lcLe, lcLt, lN_div, q7, q12, q20, q99, q200, q999, q1e4, if_true, if_false, Nat.le_refl, q8, q11, q16, q18, q32, q44, q48, q57, q59, q97, q122, q900]
      exact q _ _ F3 ⟨rfl, h3⟩
    | inr s3 =>
      rw [e3, bnd_r] at q
      rw [e3] at h3
      obtain ⟨rfl, h3⟩ := h3
      have L3 : pL s3 = pL s := by rw [(tWd_2 e3).1]; exact L2
      have hb3 := h3.bd
      try simp (disch := omega) only [h3.1.1, h3.1.2.1.all, h3.2.1.1, h3.2.2.1.all, h3.2.2.2.2.1.1.all, h3.2.2.2.2.1.all, h3.2.2.2.2.2.1.1, h3.2.2.2.2.2.1.2, show ¬ (1 = 0) by omega, wr_s, in_nI, clN, ti_z, ti_l, true_and, and_true, kI, zI, rI, kL, zL, rL, kR, zR, nnI, nnL, nnR, iL, iR, lI, lR, exi, exl, exv, eq_self, nI_add, nI_mul, nI_sub, nI_ltI, nI_leI, nI_eq, q0, q1, q2, q3, q4, q5, q6, q10, q100, br_Tr, br_Fa, iI_s, iI_n, bI_q0, bI_q1, or_true, true_or, not_true_eq_false, not_false_eq_true, nI_l, ge64, Nat.lt_irrefl, Nat.add_sub_cancel, Nat.not_lt_zero, lN_0, lN_1e4, lN_1e6, lN_1e3, lN_add, lN_mul, lN_ltI, lN_leI, lN_eqI, lN_i, lcE, lcLe, lcLt, lN_div, q7, q12, q20, q99, q200, q999, q1e4, if_true, if_false, Nat.le_refl, q8, q11, q16, q18, q32, q44, q48, q57, q59, q97, q122, q900]
      refine d141 h3 (by omega) (by omega) (fun μ4 v f4 h4 => ?_)
      have F4 := F3.trans (f4.mono (P' := PM M) (fun b q => by rcases q with q | q <;> omega))
      cases e4 : tWh p n 0 99 s3 with
      | inl e0 =>
        rw [e4] at q h4
        obtain ⟨rfl, h4⟩ := h4
        try simp (disch := omega) only [wr_s, in_nI, clN, ti_z, ti_l, true_and, and_true, kI, zI, rI, kL, zL, rL, kR, zR, nnI, nnL, nnR, iL, iR, lI, lR, exi, exl, exv, eq_self, nI_add, nI_mul, nI_sub, nI_ltI, nI_leI, nI_eq, q0, q1, q2, q3, q4, q5, q6, q10, q100, br_Tr, br_Fa, iI_s, iI_n, bI_q0, bI_q1, or_true, true_or, not_true_eq_false, not_false_eq_true, nI_l, ge64, Nat.lt_irrefl, Nat.add_sub_cancel, Nat.not_lt_zero, lN_0, lN_1e4, lN_1e6, lN_1e3, lN_add, lN_mul, lN_ltI, lN_leI, lN_eqI, lN_i, lcE, lcLe, lcLt, lN_div, q7, q12, q20, q99, q200, q999, q1e4, if_true, if_false, Nat.le_refl, q8, q11, q16, q18, q32, q44, q48, q57, q59, q97, q122, q900]
        exact q _ _ F4 ⟨rfl, h4⟩
      | inr no =>
        rw [e4, bnd_r] at q
        rw [e4] at h4
        obtain ⟨rfl, v4, h4⟩ := h4
        have L4 : pL no.2 = pL s := by rw [(tWh_2 e4).1]; exact L3
        have hb4 := h4.bd
        try simp (disch := omega) only [h4.1.1, h4.1.2.1.all, h4.2.1.1, h4.2.2.1.all, h4.2.2.2.2.1.1.all, h4.2.2.2.2.1.all, h4.2.2.2.2.2.1.1, h4.2.2.2.2.2.1.2, v4, show ¬ (1 = 0) by omega, wr_s, in_nI, clN, ti_z, ti_l, true_and, and_true, kI, zI, rI, kL, zL, rL, kR, zR, nnI, nnL, nnR, iL, iR, lI, lR, exi, exl, exv, eq_self, nI_add, nI_mul, nI_sub, nI_ltI, nI_leI, nI_eq, q0, q1, q2, q3, q4, q5, q6, q10, q100, br_Tr, br_Fa, iI_s, iI_n, bI_q0, bI_q1, or_true, true_or, not_true_eq_false, not_false_eq_true, nI_l, ge64, Nat.lt_irrefl, Nat.add_sub_cancel, Nat.not_lt_zero, lN_0, lN_1e4, lN_1e6, lN_1e3, lN_add, lN_mul, lN_ltI, lN_leI, lN_eqI, lN_i, lcE, lcLe, lcLt, lN_div, q7, q12, q20, q99, q200, q999, q1e4, if_true, if_false, Nat.le_refl, q8, q11, q16, q18, q32, q44, q48, q57, q59, q97, q122, q900]
        have f4' : FQ (fun b => b = M + 33 + 2 * nHo (pL s)) μ4 (sI μ4 (M + 33 + 2 * nHo (pL s)) 1 (nI no.1)) := (FQ.refl (fun b => b = M + 33 + 2 * nHo (pL s)) _).put rfl
        have h4 := h4.keep f4' (fun b q => Or.inr (by rw [L4]; unfold Sl; omega))
        have F4 := F4.trans (f4'.mono (P' := PM M) (fun b q => by omega))
        have w1 : gI (sI μ4 (M + 33 + 2 * nHo (pL s)) 1 (nI no.1)) (M + 33 + 2 * nHo (pL s)) 1 = nI no.1 := iI_s _ _ _ _
        refine d142 (w := sW 26) h4 (by decide +kernel) (sW_ok 26 (by omega) (by omega)).1 (fun μ5 v f5 h5 => ?_)
        have F5 := F4.trans (f5.mono (P' := PM M) (fun b q => by rcases q with q | q <;> omega))
        cases e5 : tWd p n (sW 26) no.2 with
        | inl e0 =>
          rw [e5] at q h5
          obtain ⟨rfl, h5⟩ := h5
          try simp (disch := omega) only [wr_s, in_nI, clN, ti_z, ti_l, true_and, and_true, kI, zI, rI, kL, zL, rL, kR, zR, nnI, nnL, nnR, iL, iR, lI, lR, exi, exl, exv, eq_self, nI_add, nI_mul, nI_sub, nI_ltI, nI_leI, nI_eq, q0, q1, q2, q3, q4, q5, q6, q10, q100, br_Tr, br_Fa, iI_s, iI_n, bI_q0, bI_q1, or_true, true_or, not_true_eq_false, not_false_eq_true, nI_l, ge64, Nat.lt_irrefl, Nat.add_sub_cancel, Nat.not_lt_zero, lN_0, lN_1e4, lN_1e6, lN_1e3, lN_add, lN_mul, lN_ltI, lN_leI, lN_eqI, lN_i, lcE, lcLe, lcLt, lN_div, q7, q12, q20, q99, q200, q999, q1e4, if_true, if_false, Nat.le_refl, q8, q11, q16, q18, q32, q44, q48, q57, q59, q97, q122, q900]
          exact q _ _ F5 ⟨rfl, h5⟩
        | inr s5 =>
          rw [e5, bnd_r] at q
          rw [e5] at h5
          obtain ⟨rfl, h5⟩ := h5
          have L5 : pL s5 = pL s := by rw [(tWd_2 e5).1]; exact L4
          have hb5 := h5.bd
          have w1 : gI μ5 (M + 33 + 2 * nHo (pL s)) 1 = nI no.1 := by rw [f5.I (by unfold P05; omega)]; exact w1
          try simp (disch := omega) only [h5.1.1, h5.1.2.1.all, h5.2.1.1, h5.2.2.1.all, h5.2.2.2.2.1.1.all, h5.2.2.2.2.1.all, h5.2.2.2.2.2.1.1, h5.2.2.2.2.2.1.2, show ¬ (1 = 0) by omega, wr_s, in_nI, clN, ti_z, ti_l, true_and, and_true, kI, zI, rI, kL, zL, rL, kR, zR, nnI, nnL, nnR, iL, iR, lI, lR, exi, exl, exv, eq_self, nI_add, nI_mul, nI_sub, nI_ltI, nI_leI, nI_eq, q0, q1, q2, q3, q4, q5, q6, q10, q100, br_Tr, br_Fa, iI_s, iI_n, bI_q0, bI_q1, or_true, true_or, not_true_eq_false, not_false_eq_true, nI_l, ge64, Nat.lt_irrefl, Nat.add_sub_cancel, Nat.not_lt_zero, lN_0, lN_1e4, lN_1e6, lN_1e3, lN_add, lN_mul, lN_ltI, lN_leI, lN_eqI, lN_i, lcE, lcLe, lcLt, lN_div, q7, q12, q20, q99, q200, q999, q1e4, if_true, if_false, Nat.le_refl, q8, q11, q16, q18, q32, q44, q48, q57, q59, q97, q122, q900]
          refine d141 h5 (by omega) (by omega) (fun μ6 v f6 h6 => ?_)
          have F6 := F5.trans (f6.mono (P' := PM M) (fun b q => by rcases q with q | q <;> omega))
          cases e6 : tWh p n 0 999 s5 with
          | inl e0 =>
            rw [e6] at q h6
            obtain ⟨rfl, h6⟩ := h6
            try simp (disch := omega) only [wr_s, in_nI, clN, ti_z, ti_l, true_and, and_true, kI, zI, rI, kL, zL, rL, kR, zR, nnI, nnL, nnR, iL, iR, lI, lR, exi, exl, exv, eq_self, nI_add, nI_mul, nI_sub, nI_ltI, nI_leI, nI_eq, q0, q1, q2, q3, q4, q5, q6, q10, q100, br_Tr, br_Fa, iI_s, iI_n, bI_q0, bI_q1, or_true, true_or, not_true_eq_false, not_false_eq_true, nI_l, ge64, Nat.lt_irrefl, Nat.add_sub_cancel, Nat.not_lt_zero, lN_0, lN_1e4, lN_1e6, lN_1e3, lN_add, lN_mul, lN_ltI, lN_leI, lN_eqI, lN_i, lcE, lcLe, lcLt, lN_div, q7, q12, q20, q99, q200, q999, q1e4, if_true, if_false, Nat.le_refl, q8, q11, q16, q18, q32, q44, q48, q57, q59, q97, q122, q900]
            exact q _ _ F6 ⟨rfl, h6⟩
          | inr pe =>
            rw [e6, bnd_r] at q
            rw [e6] at h6
            obtain ⟨rfl, v6, h6⟩ := h6
            have L6 : pL pe.2 = pL s := by rw [(tWh_2 e6).1]; exact L5
            have hb6 := h6.bd
            have w1 : gI μ6 (M + 33 + 2 * nHo (pL s)) 1 = nI no.1 := by rw [f6.I (by unfold P05; omega)]; exact w1
            try simp (disch := omega) only [h6.1.1, h6.1.2.1.all, h6.2.1.1, h6.2.2.1.all, h6.2.2.2.2.1.1.all, h6.2.2.2.2.1.all, h6.2.2.2.2.2.1.1, h6.2.2.2.2.2.1.2, v6, show ¬ (1 = 0) by omega, wr_s, in_nI, clN, ti_z, ti_l, true_and, and_true, kI, zI, rI, kL, zL, rL, kR, zR, nnI, nnL, nnR, iL, iR, lI, lR, exi, exl, exv, eq_self, nI_add, nI_mul, nI_sub, nI_ltI, nI_leI, nI_eq, q0, q1, q2, q3, q4, q5, q6, q10, q100, br_Tr, br_Fa, iI_s, iI_n, bI_q0, bI_q1, or_true, true_or, not_true_eq_false, not_false_eq_true, nI_l, ge64, Nat.lt_irrefl, Nat.add_sub_cancel, Nat.not_lt_zero, lN_0, lN_1e4, lN_1e6, lN_1e3, lN_add, lN_mul, lN_ltI, lN_leI, lN_eqI, lN_i, lcE, lcLe, lcLt, lN_div, q7, q12, q20, q99, q200, q999, q1e4, if_true, if_false, Nat.le_refl, q8, q11, q16, q18, q32, q44, q48, q57, q59, q97, q122, q900]
            have f6' : FQ (fun b => b = M + 33 + 2 * nHo (pL s)) μ6 (sI μ6 (M + 33 + 2 * nHo (pL s)) 2 (nI pe.1)) := (FQ.refl (fun b => b = M + 33 + 2 * nHo (pL s)) _).put rfl
            have h6 := h6.keep f6' (fun b q => Or.inr (by rw [L6]; unfold Sl; omega))
            have F6 := F6.trans (f6'.mono (P' := PM M) (fun b q => by omega))
            have w1 : gI (sI μ6 (M + 33 + 2 * nHo (pL s)) 2 (nI pe.1)) (M + 33 + 2 * nHo (pL s)) 1 = nI no.1 := by rw [iI_n (by omega)]; exact w1
            have w2 : gI (sI μ6 (M + 33 + 2 * nHo (pL s)) 2 (nI pe.1)) (M + 33 + 2 * nHo (pL s)) 2 = nI pe.1 := iI_s _ _ _ _
            refine d142 (w := sW 27) h6 (by decide +kernel) (sW_ok 27 (by omega) (by omega)).1 (fun μ7 v f7 h7 => ?_)
            have F7 := F6.trans (f7.mono (P' := PM M) (fun b q => by rcases q with q | q <;> omega))
            cases e7 : tWd p n (sW 27) pe.2 with
            | inl e0 =>
              rw [e7] at q h7
              obtain ⟨rfl, h7⟩ := h7
              try simp (disch := omega) only [wr_s, in_nI, clN, ti_z, ti_l, true_and, and_true, kI, zI, rI, kL, zL, rL, kR, zR, nnI, nnL, nnR, iL, iR, lI, lR, exi, exl, exv, eq_self, nI_add, nI_mul, nI_sub, nI_ltI, nI_leI, nI_eq, q0, q1, q2, q3, q4, q5, q6, q10, q100, br_Tr, br_Fa, iI_s, iI_n, bI_q0, bI_q1, or_true, true_or, not_true_eq_false, not_false_eq_true, nI_l, ge64, Nat.lt_irrefl, Nat.add_sub_cancel, Nat.not_lt_zero, lN_0, lN_1e4, lN_1e6, lN_1e3, lN_add, lN_mul, lN_ltI, lN_leI, lN_eqI, lN_i, lcE, lcLe, lcLt, lN_div, q7, q12, q20, q99, q200, q999, q1e4, if_true, if_false, Nat.le_refl, q8, q11, q16, q18, q32, q44, q48, q57, q59, q97, q122, q900]
              exact q _ _ F7 ⟨rfl, h7⟩
            | inr s7 =>
              rw [e7, bnd_r] at q
              rw [e7] at h7
              obtain ⟨rfl, h7⟩ := h7
              have L7 : pL s7 = pL s := by rw [(tWd_2 e7).1]; exact L6
              have hb7 := h7.bd
              have w1 : gI μ7 (M + 33 + 2 * nHo (pL s)) 1 = nI no.1 := by rw [f7.I (by unfold P05; omega)]; exact w1
              have w2 : gI μ7 (M + 33 + 2 * nHo (pL s)) 2 = nI pe.1 := by rw [f7.I (by unfold P05; omega)]; exact w2
              try simp (disch := omega) only [h7.1.1, h7.1.2.1.all, h7.2.1.1, h7.2.2.1.all, h7.2.2.2.2.1.1.all, h7.2.2.2.2.1.all, h7.2.2.2.2.2.1.1, h7.2.2.2.2.2.1.2, show ¬ (1 = 0) by omega, wr_s, in_nI, clN, ti_z, ti_l, true_and, and_true, kI, zI, rI, kL, zL, rL, kR, zR, nnI, nnL, nnR, iL, iR, lI, lR, exi, exl, exv, eq_self, nI_add, nI_mul, nI_sub, nI_ltI, nI_leI, nI_eq, q0, q1, q2, q3, q4, q5, q6, q10, q100, br_Tr, br_Fa, iI_s, iI_n, bI_q0, bI_q1, or_true, true_or, not_true_eq_false, not_false_eq_true, nI_l, ge64, Nat.lt_irrefl, Nat.add_sub_cancel, Nat.not_lt_zero, lN_0, lN_1e4, lN_1e6, lN_1e3, lN_add, lN_mul, lN_ltI, lN_leI, lN_eqI, lN_i, lcE, lcLe, lcLt, lN_div, q7, q12, q20, q99, q200, q999, q1e4, if_true, if_false, Nat.le_refl, q8, q11, q16, q18, q32, q44, q48, q57, q59, q97, q122, q900]
              have N7 : pM s7 = pM s2 := by rw [(tWd_2 e7).1, (tWh_2 e6).1, (tWd_2 e5).1, (tWh_2 e4).1, (tWd_2 e3).1]; rfl
              refine d176 (c := nHo (pL s)) hG h7 (by rw [L7]) (by omega) (fun i hi h0 => ?_) (fun μ9 v f9 h9 => ?_)
              · rw [N7, N2] at hi h0 ⊢
                have := nAdd_0 hI (by decide) hi h0
                omega
              have F9 := F7.trans (f9.mono (P' := PM M) (fun b q => by omega))
              cases e9 : rWa p n 5 (fun _ => 0) s7 with
              | inl e0 =>
                rw [e9] at q h9
                obtain ⟨rfl, h9⟩ := h9
                try simp (disch := omega) only [wr_s, in_nI, clN, ti_z, ti_l, true_and, and_true, kI, zI, rI, kL, zL, rL, kR, zR, nnI, nnL, nnR, iL, iR, lI, lR, exi, exl, exv, eq_self, nI_add, nI_mul, nI_sub, nI_ltI, nI_leI, nI_eq, q0, q1, q2, q3, q4, q5, q6, q10, q100, br_Tr, br_Fa, iI_s, iI_n, bI_q0, bI_q1, or_true, true_or, not_true_eq_false, not_false_eq_true, nI_l, ge64, Nat.lt_irrefl, Nat.add_sub_cancel, Nat.not_lt_zero, lN_0, lN_1e4, lN_1e6, lN_1e3, lN_add, lN_mul, lN_ltI, lN_leI, lN_eqI, lN_i, lcE, lcLe, lcLt, lN_div, q7, q12, q20, q99, q200, q999, q1e4, if_true, if_false, Nat.le_refl, q8, q11, q16, q18, q32, q44, q48, q57, q59, q97, q122, q900]
                exact q _ _ F9 ⟨rfl, h9⟩
              | inr w =>
                rw [e9, bnd_r] at q
                rw [e9] at h9
                obtain ⟨rfl, h9, hw9⟩ := h9
                have L9 : pL w.2 = pL s := by show w.2.2.1 = _; rw [(rWa_2 _ _ _ _ (fun _ => Nat.zero_le _) e9).1]; exact L7
                have hb9 := h9.bd
                have w1 : gI μ9 (M + 33 + 2 * nHo (pL s)) 1 = nI no.1 := by rw [f9.I (by omega)]; exact w1
                have w2 : gI μ9 (M + 33 + 2 * nHo (pL s)) 2 = nI pe.1 := by rw [f9.I (by omega)]; exact w2
                try simp (disch := omega) only [h9.1.1, h9.1.2.1.all, h9.2.1.1, h9.2.2.1.all, h9.2.2.2.2.1.1.all, h9.2.2.2.2.1.all, h9.2.2.2.2.2.1.1, h9.2.2.2.2.2.1.2, show ¬ (1 = 0) by omega, wr_s, in_nI, clN, ti_z, ti_l, true_and, and_true, kI, zI, rI, kL, zL, rL, kR, zR, nnI, nnL, nnR, iL, iR, lI, lR, exi, exl, exv, eq_self, nI_add, nI_mul, nI_sub, nI_ltI, nI_leI, nI_eq, q0, q1, q2, q3, q4, q5, q6, q10, q100, br_Tr, br_Fa, iI_s, iI_n, bI_q0, bI_q1, or_true, true_or, not_true_eq_false, not_false_eq_true, nI_l, ge64, Nat.lt_irrefl, Nat.add_sub_cancel, Nat.not_lt_zero, lN_0, lN_1e4, lN_1e6, lN_1e3, lN_add, lN_mul, lN_ltI, lN_leI, lN_eqI, lN_i, lcE, lcLe, lcLt, lN_div, q7, q12, q20, q99, q200, q999, q1e4, if_true, if_false, Nat.le_refl, q8, q11, q16, q18, q32, q44, q48, q57, q59, q97, q122, q900]
                exact q _ _ (F9.put (by omega)) ⟨rfl, h9.adH (by rw [L9]; omega) (by rw [L9]; exact w1) (by rw [L9]; exact w2) (by rw [L9]; exact hw9)⟩
end T7
