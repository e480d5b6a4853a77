/-! the model: its land grows -/
theorem MR.land {P : Nat → Nat → Prop} {μ μ1 : ax_M} {N n : Nat} {p : Nat → Nat} {s : PS} {a : Ld} (h : MR μ N n p s) (f : FK P μ μ1) (hp : ∀ b k, P b k → N ≤ b ∧ b < N + 15 ∧ (b = N → k ≠ 7)) (hr : RepM μ1 N (tll a)) (hc : CnB a) : MR μ1 N n p (s.1, a, s.2.2) := by
  have hb := h.bd
  refine ⟨h.1.fk f (fun b k q => by have := hp b k q; omega), ⟨by rw [f.R]; exact h.2.1.1, by rw [f.I (fun q => by have := hp _ _ q; omega)]; exact h.2.1.2⟩, h.2.2.1.fk f (fun k q => by have := hp _ _ q; omega), h.2.2.2.1, hr, ⟨?_, fun i hi => ?_⟩, h.2.2.2.2.2.2.1, hc⟩
  · rw [f.I (fun q => by have := hp _ _ q; omega)]; exact h.2.2.2.2.2.1.1
  · rw [f.L (fun q => by have := hp _ _ q; omega), f.I (fun q => by have := hp _ _ q; omega), f.I (fun q => by have := hp _ _ q; omega)]; exact h.2.2.2.2.2.1.2 i hi
section V4
variable {μ : ax_M} {p : Nat → Nat} {n N : Nat} {s : PS}
theorem MR.mo {v : Nat} (h : MR μ N n p s) (hv : v ≤ 12) : MR (sI μ N 0 (nI v)) N n p (s.1, sMo (pL s) v, s.2.2) := by
  have hb := h.bd
  have f : FK (fun b k => b = N ∧ k = 0) μ (sI μ N 0 (nI v)) := (FK.refl _ _).put ⟨rfl, rfl⟩
  refine h.land f (fun b k q => by omega) ?_ ⟨hv, hb.1.2⟩
  obtain ⟨h0, h1, h2, h3, h4, h5⟩ := h.2.2.2.2.1
  refine ⟨h0.fk f, fun k hk => ?_, fun t ht f' hf => ?_, fun k hk => ⟨fun f' hf => ?_, fun hh => ?_⟩, fun k hk => ⟨?_, ?_, fun g hg => ?_⟩, fun o ho => ⟨?_, ?_, ?_⟩⟩
  · rcases (show k = 0 ∨ k = 1 ∨ k = 2 ∨ k = 3 ∨ k = 4 ∨ k = 5 ∨ k = 6 by omega) with rfl | rfl | rfl | rfl | rfl | rfl | rfl
    · exact iI_s _ _ _ _
    · rw [f.I (by omega)]; exact h1 1 (by omega)
    · rw [f.I (by omega)]; exact h1 2 (by omega)
    · rw [f.I (by omega)]; exact h1 3 (by omega)
    · rw [f.I (by omega)]; exact h1 4 (by omega)
    · rw [f.I (by omega)]; exact h1 5 (by omega)
    · rw [f.I (by omega)]; exact h1 6 (by omega)
  · rw [f.I (by omega)]; exact h2 t ht f' hf
  · rw [f.I (by omega)]; exact (h3 k hk).1 f' hf
  · rw [f.I (by omega)]; exact (h3 k hk).2 hh
  · rw [f.I (by omega)]; exact (h4 k hk).1
  · rw [f.I (by omega)]; exact (h4 k hk).2.1
  · rw [f.I (by omega)]; exact (h4 k hk).2.2 g hg
  · rw [f.I (by omega)]; exact (h5 o ho).1
  · rw [f.I (by omega)]; exact (h5 o ho).2.1
  · rw [f.I (by omega)]; exact (h5 o ho).2.2
theorem MR.inc (h : MR μ N n p s) (hg : nGr (pL s) < 4) : MR (sI μ N 1 (nI (nGr (pL s) + 1))) N n p (s.1, inc (pL s) 1, s.2.2) := by
  have hb := h.bd
  have f : FK (fun b k => b = N ∧ k = 1) μ (sI μ N 1 (nI (nGr (pL s) + 1))) := (FK.refl _ _).put ⟨rfl, rfl⟩
  refine h.land f (fun b k q => by omega) ?_ ⟨hb.1.1, hg, hb.1.2.2⟩
  obtain ⟨h0, h1, h2, h3, h4, h5⟩ := h.2.2.2.2.1
  refine ⟨h0.fk f, fun k hk => ?_, fun t ht f' hf => ?_, fun k hk => ⟨fun f' hf => ?_, fun hh => ?_⟩, fun k hk => ⟨?_, ?_, fun g hg => ?_⟩, fun o ho => ⟨?_, ?_, ?_⟩⟩
  · rcases (show k = 0 ∨ k = 1 ∨ k = 2 ∨ k = 3 ∨ k = 4 ∨ k = 5 ∨ k = 6 by omega) with rfl | rfl | rfl | rfl | rfl | rfl | rfl
    · rw [f.I (by omega)]; exact h1 0 (by omega)
    · exact iI_s _ _ _ _
    · rw [f.I (by omega)]; exact h1 2 (by omega)
    · rw [f.I (by omega)]; exact h1 3 (by omega)
    · rw [f.I (by omega)]; exact h1 4 (by omega)
    · rw [f.I (by omega)]; exact h1 5 (by omega)
    · rw [f.I (by omega)]; exact h1 6 (by omega)
  · rw [f.I (by omega)]; exact h2 t ht f' hf
  · rw [f.I (by omega)]; exact (h3 k hk).1 f' hf
  · rw [f.I (by omega)]; exact (h3 k hk).2 hh
  · rw [f.I (by omega)]; exact (h4 k hk).1
  · rw [f.I (by omega)]; exact (h4 k hk).2.1
  · rw [f.I (by omega)]; exact (h4 k hk).2.2 g hg
  · rw [f.I (by omega)]; exact (h5 o ho).1
  · rw [f.I (by omega)]; exact (h5 o ho).2.1
  · rw [f.I (by omega)]; exact (h5 o ho).2.2
theorem MR.adT {g z x c : Nat} (h : MR μ N n p s) (hn : nTh (pL s) < 8) : MR (sI (sI (sI (sI (sI μ (N + 1) (nTh (pL s)) (nI g)) (N + 2) (nTh (pL s)) (nI z)) (N + 3) (nTh (pL s)) (nI x)) (N + 4) (nTh (pL s)) (nI c)) N 2 (nI (nTh (pL s) + 1))) N n p (s.1, adT (pL s) g z x c, s.2.2) := by
  have hb := h.bd
  have f : FK (fun b k => (b = N ∧ k = 2) ∨ (N + 1 ≤ b ∧ b ≤ N + 4 ∧ k = nTh (pL s))) μ (sI (sI (sI (sI (sI μ (N + 1) (nTh (pL s)) (nI g)) (N + 2) (nTh (pL s)) (nI z)) (N + 3) (nTh (pL s)) (nI x)) (N + 4) (nTh (pL s)) (nI c)) N 2 (nI (nTh (pL s) + 1))) := (((((FK.refl _ _).put (Or.inr ⟨by omega, by omega, rfl⟩)).put (Or.inr ⟨by omega, by omega, rfl⟩)).put (Or.inr ⟨by omega, by omega, rfl⟩)).put (Or.inr ⟨by omega, by omega, rfl⟩)).put (Or.inl ⟨rfl, rfl⟩)
  refine h.land f (fun b k q => by omega) ?_ ⟨hb.1.1, hb.1.2.1, hn, hb.1.2.2.2⟩
  obtain ⟨h0, h1, h2, h3, h4, h5⟩ := h.2.2.2.2.1
  refine ⟨h0.fk f, fun k hk => ?_, fun t ht f' hf => ?_, fun k hk => ⟨fun f' hf => ?_, fun hh => ?_⟩, fun k hk => ⟨?_, ?_, fun g hg => ?_⟩, fun o ho => ⟨?_, ?_, ?_⟩⟩
  · rcases (show k = 0 ∨ k = 1 ∨ k = 2 ∨ k = 3 ∨ k = 4 ∨ k = 5 ∨ k = 6 by omega) with rfl | rfl | rfl | rfl | rfl | rfl | rfl
    · rw [f.I (by omega)]; exact h1 0 (by omega)
    · rw [f.I (by omega)]; exact h1 1 (by omega)
    · exact iI_s _ _ _ _
    · rw [f.I (by omega)]; exact h1 3 (by omega)
    · rw [f.I (by omega)]; exact h1 4 (by omega)
    · rw [f.I (by omega)]; exact h1 5 (by omega)
    · rw [f.I (by omega)]; exact h1 6 (by omega)
  · have ht : t < nTh (pL s) + 1 := ht
    show _ = nI (if t = (pL s).1 2 then adf g z x c f' else (pL s).2.1 t f')
    by_cases e : t = (pL s).1 2
    · rw [if_pos e]
      have e : t = nTh (pL s) := e
      subst e
      rcases (show f' = 0 ∨ f' = 1 ∨ f' = 2 ∨ f' = 3 by omega) with rfl | rfl | rfl | rfl
      · try simp (disch := omega) only [Nat.add_zero, wr_s, in_nI, clN, ti_z, ti_l, true_and, and_true, kI, zI, rI, kL, zL, rL, kR, zR, nnI, nnL, nnR, iL, iR, lI, lR, exi, exl, exv, eq_self, nI_add, nI_mul, nI_sub, nI_ltI, nI_leI, nI_eq, q0, q1, q2, q3, q4, q5, q6, q10, q100, br_Tr, br_Fa, iI_s, iI_n, bI_q0, bI_q1, or_true, true_or, not_true_eq_false, not_false_eq_true, nI_l, ge64, Nat.lt_irrefl, Nat.add_sub_cancel, Nat.not_lt_zero, lN_0, lN_1e4, lN_1e6, lN_1e3, lN_add, lN_mul, lN_ltI, lN_leI, lN_eqI, lN_i, lcE, lcLe, lcLt, lN_div, q7, q12, q20, q99, q200, q999, q1e4, if_true, if_false, Nat.le_refl, q8, q11, q16, q18, q32, q44, q48, q57, q59, q97, q122, q900]; rfl
      · try simp (disch := omega) only [wr_s, in_nI, clN, ti_z, ti_l, true_and, and_true, kI, zI, rI, kL, zL, rL, kR, zR, nnI, nnL, nnR, iL, iR, lI, lR, exi, exl, exv, eq_self, nI_add, nI_mul, nI_sub, nI_ltI, nI_leI, nI_eq, q0, q1, q2, q3, q4, q5, q6, q10, q100, br_Tr, br_Fa, iI_s, iI_n, bI_q0, bI_q1, or_true, true_or, not_true_eq_false, not_false_eq_true, nI_l, ge64, Nat.lt_irrefl, Nat.add_sub_cancel, Nat.not_lt_zero, lN_0, lN_1e4, lN_1e6, lN_1e3, lN_add, lN_mul, lN_ltI, lN_leI, lN_eqI, lN_i, lcE, lcLe, lcLt, lN_div, q7, q12, q20, q99, q200, q999, q1e4, if_true, if_false, Nat.le_refl, q8, q11, q16, q18, q32, q44, q48, q57, q59, q97, q122, q900]; rfl
      · try simp (disch := omega) only [wr_s, in_nI, clN, ti_z, ti_l, true_and, and_true, kI, zI, rI, kL, zL, rL, kR, zR, nnI, nnL, nnR, iL, iR, lI, lR, exi, exl, exv, eq_self, nI_add, nI_mul, nI_sub, nI_ltI, nI_leI, nI_eq, q0, q1, q2, q3, q4, q5, q6, q10, q100, br_Tr, br_Fa, iI_s, iI_n, bI_q0, bI_q1, or_true, true_or, not_true_eq_false, not_false_eq_true, nI_l, ge64, Nat.lt_irrefl, Nat.add_sub_cancel, Nat.not_lt_zero, lN_0, lN_1e4, lN_1e6, lN_1e3, lN_add, lN_mul, lN_ltI, lN_leI, lN_eqI, lN_i, lcE, lcLe, lcLt, lN_div, q7, q12, q20, q99, q200, q999, q1e4, if_true, if_false, Nat.le_refl, q8, q11, q16, q18, q32, q44, q48, q57, q59, q97, q122, q900]; rfl
      · try simp (disch := omega) only [wr_s, in_nI, clN, ti_z, ti_l, true_and, and_true, kI, zI, rI, kL, zL, rL, kR, zR, nnI, nnL, nnR, iL, iR, lI, lR, exi, exl, exv, eq_self, nI_add, nI_mul, nI_sub, nI_ltI, nI_leI, nI_eq, q0, q1, q2, q3, q4, q5, q6, q10, q100, br_Tr, br_Fa, iI_s, iI_n, bI_q0, bI_q1, or_true, true_or, not_true_eq_false, not_false_eq_true, nI_l, ge64, Nat.lt_irrefl, Nat.add_sub_cancel, Nat.not_lt_zero, lN_0, lN_1e4, lN_1e6, lN_1e3, lN_add, lN_mul, lN_ltI, lN_leI, lN_eqI, lN_i, lcE, lcLe, lcLt, lN_div, q7, q12, q20, q99, q200, q999, q1e4, if_true, if_false, Nat.le_refl, q8, q11, q16, q18, q32, q44, q48, q57, q59, q97, q122, q900]; rfl
    · rw [if_neg e, f.I (by have e : ¬ t = nTh (pL s) := e; omega)]
      exact h2 t (by have e : ¬ t = nTh (pL s) := e; show t < nTh (pL s); omega) f' hf
  · rw [f.I (by omega)]; exact (h3 k hk).1 f' hf
  · rw [f.I (by omega)]; exact (h3 k hk).2 hh
  · rw [f.I (by omega)]; exact (h4 k hk).1
  · rw [f.I (by omega)]; exact (h4 k hk).2.1
  · rw [f.I (by omega)]; exact (h4 k hk).2.2 g hg
  · rw [f.I (by omega)]; exact (h5 o ho).1
  · rw [f.I (by omega)]; exact (h5 o ho).2.1
  · rw [f.I (by omega)]; exact (h5 o ho).2.2
theorem MR.adc {t m w b : Nat} {v : Int32} (h : MR μ N n p s) (hn : nCh (pL s) < 16) (hv : w ≤ 4 → v = nI b) : MR (sI (sI (sI (sI (sI (sI μ (N + 5) (nCh (pL s)) (nI t)) (N + 6) (nCh (pL s)) (nI m)) (N + 7) (nCh (pL s)) (nI w)) (N + 8) (nCh (pL s)) v) N 3 (nI (nCh (pL s) + 1))) N 4 (nI (nCh (pL s) + 1))) N n p (s.1, adc (pL s) t m w b, s.2.2) := by
  have hb := h.bd
  have f : FK (fun b k => (b = N ∧ (k = 3 ∨ k = 4)) ∨ (N + 5 ≤ b ∧ b ≤ N + 8 ∧ k = nCh (pL s))) μ (sI (sI (sI (sI (sI (sI μ (N + 5) (nCh (pL s)) (nI t)) (N + 6) (nCh (pL s)) (nI m)) (N + 7) (nCh (pL s)) (nI w)) (N + 8) (nCh (pL s)) v) N 3 (nI (nCh (pL s) + 1))) N 4 (nI (nCh (pL s) + 1))) := ((((((FK.refl _ _).put (Or.inr ⟨by omega, by omega, rfl⟩)).put (Or.inr ⟨by omega, by omega, rfl⟩)).put (Or.inr ⟨by omega, by omega, rfl⟩)).put (Or.inr ⟨by omega, by omega, rfl⟩)).put (Or.inl ⟨rfl, Or.inl rfl⟩)).put (Or.inl ⟨rfl, Or.inr rfl⟩)
  refine h.land f (fun b k q => by omega) ?_ ⟨hb.1.1, hb.1.2.1, hb.1.2.2.1, hn, hb.1.2.2.2.2⟩
  obtain ⟨h0, h1, h2, h3, h4, h5⟩ := h.2.2.2.2.1
  refine ⟨h0.fk f, fun k hk => ?_, fun t ht f' hf => ?_, fun k hk => ?_, fun k hk => ⟨?_, ?_, fun g hg => ?_⟩, fun o ho => ⟨?_, ?_, ?_⟩⟩
  · rcases (show k = 0 ∨ k = 1 ∨ k = 2 ∨ k = 3 ∨ k = 4 ∨ k = 5 ∨ k = 6 by omega) with rfl | rfl | rfl | rfl | rfl | rfl | rfl
    · rw [f.I (by omega)]; exact h1 0 (by omega)
    · rw [f.I (by omega)]; exact h1 1 (by omega)
    · rw [f.I (by omega)]; exact h1 2 (by omega)
    · rw [iI_n (by omega)]; exact iI_s _ _ _ _
    · exact iI_s _ _ _ _
    · rw [f.I (by omega)]; exact h1 5 (by omega)
    · rw [f.I (by omega)]; exact h1 6 (by omega)
  · rw [f.I (by omega)]; exact h2 t ht f' hf
  · have hk : k < nCh (pL s) + 1 := hk
    by_cases e : k = nCh (pL s)
    · subst e
      refine ⟨fun f' hf => ?_, fun hh => ?_⟩
      · show _ = nI (if (pL s).1 3 = (pL s).1 3 then adf t m w b f' else _)
        rw [if_pos rfl]
        rcases (show f' = 0 ∨ f' = 1 ∨ f' = 2 by omega) with rfl | rfl | rfl
        · try simp (disch := omega) only [Nat.add_zero, wr_s, in_nI, clN, ti_z, ti_l, true_and, and_true, kI, zI, rI, kL, zL, rL, kR, zR, nnI, nnL, nnR, iL, iR, lI, lR, exi, exl, exv, eq_self, nI_add, nI_mul, nI_sub, nI_ltI, nI_leI, nI_eq, q0, q1, q2, q3, q4, q5, q6, q10, q100, br_Tr, br_Fa, iI_s, iI_n, bI_q0, bI_q1, or_true, true_or, not_true_eq_false, not_false_eq_true, nI_l, ge64, Nat.lt_irrefl, Nat.add_sub_cancel, Nat.not_lt_zero, lN_0, lN_1e4, lN_1e6, lN_1e3, lN_add, lN_mul, lN_ltI, lN_leI, lN_eqI, lN_i, lcE, lcLe, lcLt, lN_div, q7, q12, q20, q99, q200, q999, q1e4, if_true, if_false, Nat.le_refl, q8, q11, q16, q18, q32, q44, q48, q57, q59, q97, q122, q900]; rfl
        · try simp (disch := omega) only [wr_s, in_nI, clN, ti_z, ti_l, true_and, and_true, kI, zI, rI, kL, zL, rL, kR, zR, nnI, nnL, nnR, iL, iR, lI, lR, exi, exl, exv, eq_self, nI_add, nI_mul, nI_sub, nI_ltI, nI_leI, nI_eq, q0, q1, q2, q3, q4, q5, q6, q10, q100, br_Tr, br_Fa, iI_s, iI_n, bI_q0, bI_q1, or_true, true_or, not_true_eq_false, not_false_eq_true, nI_l, ge64, Nat.lt_irrefl, Nat.add_sub_cancel, Nat.not_lt_zero, lN_0, lN_1e4, lN_1e6, lN_1e3, lN_add, lN_mul, lN_ltI, lN_leI, lN_eqI, lN_i, lcE, lcLe, lcLt, lN_div, q7, q12, q20, q99, q200, q999, q1e4, if_true, if_false, Nat.le_refl, q8, q11, q16, q18, q32, q44, q48, q57, q59, q97, q122, q900]; rfl
        · try simp (disch := omega) only [wr_s, in_nI, clN, ti_z, ti_l, true_and, and_true, kI, zI, rI, kL, zL, rL, kR, zR, nnI, nnL, nnR, iL, iR, lI, lR, exi, exl, exv, eq_self, nI_add, nI_mul, nI_sub, nI_ltI, nI_leI, nI_eq, q0, q1, q2, q3, q4, q5, q6, q10, q100, br_Tr, br_Fa, iI_s, iI_n, bI_q0, bI_q1, or_true, true_or, not_true_eq_false, not_false_eq_true, nI_l, ge64, Nat.lt_irrefl, Nat.add_sub_cancel, Nat.not_lt_zero, lN_0, lN_1e4, lN_1e6, lN_1e3, lN_add, lN_mul, lN_ltI, lN_leI, lN_eqI, lN_i, lcE, lcLe, lcLt, lN_div, q7, q12, q20, q99, q200, q999, q1e4, if_true, if_false, Nat.le_refl, q8, q11, q16, q18, q32, q44, q48, q57, q59, q97, q122, q900]; rfl
      · have hh : (if (pL s).1 3 = (pL s).1 3 then adf t m w b 2 else _) ≤ 4 := hh
        rw [if_pos rfl] at hh
        show _ = nI (if (pL s).1 3 = (pL s).1 3 then adf t m w b 3 else _)
        rw [if_pos rfl]
        try simp (disch := omega) only [wr_s, in_nI, clN, ti_z, ti_l, true_and, and_true, kI, zI, rI, kL, zL, rL, kR, zR, nnI, nnL, nnR, iL, iR, lI, lR, exi, exl, exv, eq_self, nI_add, nI_mul, nI_sub, nI_ltI, nI_leI, nI_eq, q0, q1, q2, q3, q4, q5, q6, q10, q100, br_Tr, br_Fa, iI_s, iI_n, bI_q0, bI_q1, or_true, true_or, not_true_eq_false, not_false_eq_true, nI_l, ge64, Nat.lt_irrefl, Nat.add_sub_cancel, Nat.not_lt_zero, lN_0, lN_1e4, lN_1e6, lN_1e3, lN_add, lN_mul, lN_ltI, lN_leI, lN_eqI, lN_i, lcE, lcLe, lcLt, lN_div, q7, q12, q20, q99, q200, q999, q1e4, if_true, if_false, Nat.le_refl, q8, q11, q16, q18, q32, q44, q48, q57, q59, q97, q122, q900]
        exact hv hh
    · refine ⟨fun f' hf => ?_, fun hh => ?_⟩
      · rw [f.I (by omega), (h3 k (by show k < nCh (pL s); omega)).1 f' hf]
        show _ = nI (if k = (pL s).1 3 then _ else (pL s).2.2.1 k f')
        rw [if_neg e]
        rfl
      · have hh : (if k = (pL s).1 3 then _ else (pL s).2.2.1 k 2) ≤ 4 := hh
        rw [if_neg e] at hh
        rw [f.I (by omega), (h3 k (by show k < nCh (pL s); omega)).2 hh]
        show _ = nI (if k = (pL s).1 3 then _ else (pL s).2.2.1 k 3)
        rw [if_neg e]
        rfl
  · rw [f.I (by omega)]; exact (h4 k hk).1
  · rw [f.I (by omega)]; exact (h4 k hk).2.1
  · rw [f.I (by omega)]; exact (h4 k hk).2.2 g hg
  · rw [f.I (by omega)]; exact (h5 o ho).1
  · rw [f.I (by omega)]; exact (h5 o ho).2.1
  · rw [f.I (by omega)]; exact (h5 o ho).2.2
theorem MR.adO {x y z : Nat} (h : MR μ N n p s) (hn : nOf (pL s) < 3) : MR (sI (sI (sI (sI μ (N + 12) (nOf (pL s)) (nI x)) (N + 13) (nOf (pL s)) (bI (decide (y = 1)))) (N + 14) (nOf (pL s)) (bI (decide (z = 1)))) N 6 (nI (nOf (pL s) + 1))) N n p (s.1, adO (pL s) x y z, s.2.2) := by
  have hb := h.bd
  have f : FK (fun b k => (b = N ∧ k = 6) ∨ (N + 12 ≤ b ∧ b ≤ N + 14 ∧ k = nOf (pL s))) μ (sI (sI (sI (sI μ (N + 12) (nOf (pL s)) (nI x)) (N + 13) (nOf (pL s)) (bI (decide (y = 1)))) (N + 14) (nOf (pL s)) (bI (decide (z = 1)))) N 6 (nI (nOf (pL s) + 1))) := ((((FK.refl _ _).put (Or.inr ⟨by omega, by omega, rfl⟩)).put (Or.inr ⟨by omega, by omega, rfl⟩)).put (Or.inr ⟨by omega, by omega, rfl⟩)).put (Or.inl ⟨rfl, rfl⟩)
  refine h.land f (fun b k q => by omega) ?_ ⟨hb.1.1, hb.1.2.1, hb.1.2.2.1, hb.1.2.2.2.1, hb.1.2.2.2.2.1, hn⟩
  obtain ⟨h0, h1, h2, h3, h4, h5⟩ := h.2.2.2.2.1
  refine ⟨h0.fk f, fun k hk => ?_, fun t ht f' hf => ?_, fun k hk => ⟨fun f' hf => ?_, fun hh => ?_⟩, fun k hk => ⟨?_, ?_, fun g hg => ?_⟩, fun o ho => ?_⟩
  · rcases (show k = 0 ∨ k = 1 ∨ k = 2 ∨ k = 3 ∨ k = 4 ∨ k = 5 ∨ k = 6 by omega) with rfl | rfl | rfl | rfl | rfl | rfl | rfl
    · rw [f.I (by omega)]; exact h1 0 (by omega)
    · rw [f.I (by omega)]; exact h1 1 (by omega)
    · rw [f.I (by omega)]; exact h1 2 (by omega)
    · rw [f.I (by omega)]; exact h1 3 (by omega)
    · rw [f.I (by omega)]; exact h1 4 (by omega)
    · rw [f.I (by omega)]; exact h1 5 (by omega)
    · exact iI_s _ _ _ _
  · rw [f.I (by omega)]; exact h2 t ht f' hf
  · rw [f.I (by omega)]; exact (h3 k hk).1 f' hf
  · rw [f.I (by omega)]; exact (h3 k hk).2 hh
  · rw [f.I (by omega)]; exact (h4 k hk).1
  · rw [f.I (by omega)]; exact (h4 k hk).2.1
  · rw [f.I (by omega)]; exact (h4 k hk).2.2 g hg
  · have ho : o < nOf (pL s) + 1 := ho
    show _ = nI (if o = (pL s).1 6 then adf x y z 0 0 else (pL s).2.2.2.2 o 0) ∧ _ = bI (decide ((if o = (pL s).1 6 then adf x y z 0 1 else (pL s).2.2.2.2 o 1) = 1)) ∧ _ = bI (decide ((if o = (pL s).1 6 then adf x y z 0 2 else (pL s).2.2.2.2 o 2) = 1))
    by_cases e : o = (pL s).1 6
    · rw [if_pos e, if_pos e, if_pos e]
      have e : o = nOf (pL s) := e
      subst e
      refine ⟨?_, ?_, ?_⟩
      · try simp (disch := omega) only [wr_s, in_nI, clN, ti_z, ti_l, true_and, and_true, kI, zI, rI, kL, zL, rL, kR, zR, nnI, nnL, nnR, iL, iR, lI, lR, exi, exl, exv, eq_self, nI_add, nI_mul, nI_sub, nI_ltI, nI_leI, nI_eq, q0, q1, q2, q3, q4, q5, q6, q10, q100, br_Tr, br_Fa, iI_s, iI_n, bI_q0, bI_q1, or_true, true_or, not_true_eq_false, not_false_eq_true, nI_l, ge64, Nat.lt_irrefl, Nat.add_sub_cancel, Nat.not_lt_zero, lN_0, lN_1e4, lN_1e6, lN_1e3, lN_add, lN_mul, lN_ltI, lN_leI, lN_eqI, lN_i, lcE, lcLe, lcLt, lN_div, q7, q12, q20, q99, q200, q999, q1e4, if_true, if_false, Nat.le_refl, q8, q11, q16, q18, q32, q44, q48, q57, q59, q97, q122, q900]; rfl
      · try simp (disch := omega) only [wr_s, in_nI, clN, ti_z, ti_l, true_and, and_true, kI, zI, rI, kL, zL, rL, kR, zR, nnI, nnL, nnR, iL, iR, lI, lR, exi, exl, exv, eq_self, nI_add, nI_mul, nI_sub, nI_ltI, nI_leI, nI_eq, q0, q1, q2, q3, q4, q5, q6, q10, q100, br_Tr, br_Fa, iI_s, iI_n, bI_q0, bI_q1, or_true, true_or, not_true_eq_false, not_false_eq_true, nI_l, ge64, Nat.lt_irrefl, Nat.add_sub_cancel, Nat.not_lt_zero, lN_0, lN_1e4, lN_1e6, lN_1e3, lN_add, lN_mul, lN_ltI, lN_leI, lN_eqI, lN_i, lcE, lcLe, lcLt, lN_div, q7, q12, q20, q99, q200, q999, q1e4, if_true, if_false, Nat.le_refl, q8, q11, q16, q18, q32, q44, q48, q57, q59, q97, q122, q900]; rfl
      · try simp (disch := omega) only [wr_s, in_nI, clN, ti_z, ti_l, true_and, and_true, kI, zI, rI, kL, zL, rL, kR, zR, nnI, nnL, nnR, iL, iR, lI, lR, exi, exl, exv, eq_self, nI_add, nI_mul, nI_sub, nI_ltI, nI_leI, nI_eq, q0, q1, q2, q3, q4, q5, q6, q10, q100, br_Tr, br_Fa, iI_s, iI_n, bI_q0, bI_q1, or_true, true_or, not_true_eq_false, not_false_eq_true, nI_l, ge64, Nat.lt_irrefl, Nat.add_sub_cancel, Nat.not_lt_zero, lN_0, lN_1e4, lN_1e6, lN_1e3, lN_add, lN_mul, lN_ltI, lN_leI, lN_eqI, lN_i, lcE, lcLe, lcLt, lN_div, q7, q12, q20, q99, q200, q999, q1e4, if_true, if_false, Nat.le_refl, q8, q11, q16, q18, q32, q44, q48, q57, q59, q97, q122, q900]; rfl
    · rw [if_neg e, if_neg e, if_neg e]
      have e : ¬ o = nOf (pL s) := e
      have q := h5 o (by show o < nOf (pL s); omega)
      refine ⟨?_, ?_, ?_⟩
      · rw [f.I (by omega)]; exact q.1
      · rw [f.I (by omega)]; exact q.2.1
      · rw [f.I (by omega)]; exact q.2.2
theorem MR.adH {no pe : Nat} {w : Nat → Nat} (h : MR μ N n p s) (hn : nHo (pL s) < 3) {μ1 : ax_M} (f : FK (fun b k => (b = N ∧ k = 5) ∨ (b = N + 9 ∧ k = nHo (pL s)) ∨ (b = N + 10 ∧ k = nHo (pL s)) ∨ (b = N + 11 ∧ 4 * nHo (pL s) ≤ k ∧ k < 4 * nHo (pL s) + 4)) μ μ1) (g5 : gI μ1 N 5 = nI (nHo (pL s) + 1)) (g9 : gI μ1 (N + 9) (nHo (pL s)) = nI no) (g10 : gI μ1 (N + 10) (nHo (pL s)) = nI pe) (g11 : ∀ g, g < 4 → gI μ1 (N + 11) (4 * nHo (pL s) + g) = nI (w g)) : MR μ1 N n p (s.1, adH (pL s) no pe w, s.2.2) := by
  have hb := h.bd
  refine h.land f (fun b k q => by omega) ?_ ⟨hb.1.1, hb.1.2.1, hb.1.2.2.1, hb.1.2.2.2.1, hn, hb.1.2.2.2.2.2⟩
  obtain ⟨h0, h1, h2, h3, h4, h5⟩ := h.2.2.2.2.1
  refine ⟨h0.fk f, fun k hk => ?_, fun t ht f' hf => ?_, fun k hk => ⟨fun f' hf => ?_, fun hh => ?_⟩, fun k hk => ?_, fun o ho => ⟨?_, ?_, ?_⟩⟩
  · rcases (show k = 0 ∨ k = 1 ∨ k = 2 ∨ k = 3 ∨ k = 4 ∨ k = 5 ∨ k = 6 by omega) with rfl | rfl | rfl | rfl | rfl | rfl | rfl
    · rw [f.I (by omega)]; exact h1 0 (by omega)
    · rw [f.I (by omega)]; exact h1 1 (by omega)
    · rw [f.I (by omega)]; exact h1 2 (by omega)
    · rw [f.I (by omega)]; exact h1 3 (by omega)
    · rw [f.I (by omega)]; exact h1 4 (by omega)
    · exact g5
    · rw [f.I (by omega)]; exact h1 6 (by omega)
  · rw [f.I (by omega)]; exact h2 t ht f' hf
  · rw [f.I (by omega)]; exact (h3 k hk).1 f' hf
  · rw [f.I (by omega)]; exact (h3 k hk).2 hh
  · have hk : k < nHo (pL s) + 1 := hk
    show _ = nI (if k = (pL s).1 5 then hof no pe w 0 else (pL s).2.2.2.1 k 0) ∧ _ = nI (if k = (pL s).1 5 then hof no pe w 1 else (pL s).2.2.2.1 k 1) ∧ ∀ g, g < 4 → _ = nI (if k = (pL s).1 5 then hof no pe w (2 + g) else (pL s).2.2.2.1 k (2 + g))
    by_cases e : k = (pL s).1 5
    · rw [if_pos e, if_pos e]
      have e' : k = nHo (pL s) := e
      refine ⟨by rw [e']; exact g9, by rw [e']; exact g10, fun g hg => ?_⟩
      rw [if_pos e, e']
      unfold hof
      rw [if_neg (by omega), if_neg (by omega), show 2 + g - 2 = g by omega]
      exact g11 g hg
    · rw [if_neg e, if_neg e]
      have e' : ¬ k = nHo (pL s) := e
      have q := h4 k (by show k < nHo (pL s); omega)
      refine ⟨by rw [f.I (by omega)]; exact q.1, by rw [f.I (by omega)]; exact q.2.1, fun g hg => ?_⟩
      rw [if_neg e, f.I (by omega)]
      exact q.2.2 g hg
  · rw [f.I (by omega)]; exact (h5 o ho).1
  · rw [f.I (by omega)]; exact (h5 o ho).2.1
  · rw [f.I (by omega)]; exact (h5 o ho).2.2
end V4
