/-! the class: the reader's lines -/
abbrev PM (M b : Nat) : Prop := (M ≤ b ∧ b < M + 42) ∨ (150 ≤ b ∧ b < 156)
theorem FQ.ofFr {P : Nat → Nat → Prop} {P' : Nat → Prop} {μ μ1 : ax_M} (h : Fr P μ μ1) (hp : ∀ b k, P b k → P' b) : FQ P' μ μ1 :=
  ⟨h.1, h.2.1, h.2.2.2.1, fun b k hn => ⟨h.I (fun q => hn (hp b k q)), h.L b k⟩⟩
section T4
variable {μ : ax_M} {M n : Nat} {p : Nat → Nat} {s : PS}
theorem RS.land {μ1 : ax_M} {a : Ld} (h : RS μ M n p s) (f : FQ (fun b => M ≤ b ∧ b < M + 42) μ μ1) (hr : RepL μ1 M a) (hc : CnB a) : RS μ1 M n p (s.1, a, s.2.2) := by
  have hb := h.bd
  exact ⟨h.1.fq f (fun q => by omega), ⟨by rw [f.R]; exact h.2.1.1, h.2.1.2⟩, h.2.2.1.fq f (fun q => by omega), h.2.2.2.1, hr, h.2.2.2.2.2.1.fq f (fun b q => by omega), h.2.2.2.2.2.2.1, hc⟩
theorem RS.mo {v : Nat} (h : RS μ M n p s) (hv : v ≤ 12) : RS (sI μ M 4 (nI v)) M n p (s.1, sMo (pL s) v, s.2.2) := by
  have hb := h.bd
  have f : Fr (fun b k => b = M ∧ k = 4) μ (sI μ M 4 (nI v)) := (Fr.refl _ _).put ⟨rfl, rfl⟩
  refine h.land (FQ.ofFr f (fun b k q => by omega)) ?_ ⟨hv, h.2.2.2.2.2.2.2.2⟩
  obtain ⟨h0, h1, h2, h3, h4, h5⟩ := h.2.2.2.2.1
  refine ⟨h0.fr f, fun k hk => ?_, fun t ht f' hf => ?_, fun k hk => ⟨fun f' hf => ?_, fun hh => ?_⟩, fun k hk => ⟨?_, ?_, fun g hg => ?_⟩, fun o ho f' hf => ?_⟩
  · by_cases e : k = 0
    · subst e; exact iI_s _ _ _ _
    · rw [f.I (by omega), h1 k hk]
      show _ = nI (if k = 0 then _ else (pL s).1 k)
      rw [if_neg e]
  · rw [f.I (by omega)]; exact h2 t ht f' hf
  · rw [f.I (by omega)]; exact (h3 k hk).1 f' hf
  · rw [f.I (by omega)]; exact (h3 k hk).2 hh
  · rw [f.I (by omega)]; exact (h4 k hk).1
  · rw [f.I (by omega)]; exact (h4 k hk).2.1
  · rw [f.I (by omega)]; exact (h4 k hk).2.2 g hg
  · rw [f.I (by omega)]; exact h5 o ho f' hf
theorem RS.inc (h : RS μ M n p s) (hg : nGr (pL s) < 4) : RS (sI μ M 5 (nI (nGr (pL s) + 1))) M n p (s.1, inc (pL s) 1, s.2.2) := by
  have hb := h.bd
  have f : Fr (fun b k => b = M ∧ k = 5) μ (sI μ M 5 (nI (nGr (pL s) + 1))) := (Fr.refl _ _).put ⟨rfl, rfl⟩
  refine h.land (FQ.ofFr f (fun b k q => by omega)) ?_ ⟨hb.1.1, hg, hb.1.2.2⟩
  obtain ⟨h0, h1, h2, h3, h4, h5⟩ := h.2.2.2.2.1
  refine ⟨h0.fr f, fun k hk => ?_, fun t ht f' hf => ?_, fun k hk => ⟨fun f' hf => ?_, fun hh => ?_⟩, fun k hk => ⟨?_, ?_, fun g hg => ?_⟩, fun o ho f' hf => ?_⟩
  · by_cases e : k = 1
    · subst e; exact iI_s _ _ _ _
    · rw [f.I (by omega), h1 k hk]
      show _ = nI (if k = 1 then _ else (pL s).1 k)
      rw [if_neg e]
  · rw [f.I (by omega)]; exact h2 t ht f' hf
  · rw [f.I (by omega)]; exact (h3 k hk).1 f' hf
  · rw [f.I (by omega)]; exact (h3 k hk).2 hh
  · rw [f.I (by omega)]; exact (h4 k hk).1
  · rw [f.I (by omega)]; exact (h4 k hk).2.1
  · rw [f.I (by omega)]; exact (h4 k hk).2.2 g hg
  · rw [f.I (by omega)]; exact h5 o ho f' hf
theorem RS.adT {g z x c : Nat} (h : RS μ M n p s) (hn : nTh (pL s) < 8) (g0 : gI μ (M + 5 + nTh (pL s)) 0 = nI g) (g1 : gI μ (M + 5 + nTh (pL s)) 1 = nI z) (g2 : gI μ (M + 5 + nTh (pL s)) 2 = nI x) (g3 : gI μ (M + 5 + nTh (pL s)) 3 = nI c) : RS (sI μ M 6 (nI (nTh (pL s) + 1))) M n p (s.1, adT (pL s) g z x c, s.2.2) := by
  have hb := h.bd
  have f : Fr (fun b k => b = M ∧ k = 6) μ (sI μ M 6 (nI (nTh (pL s) + 1))) := (Fr.refl _ _).put ⟨rfl, rfl⟩
  refine h.land (FQ.ofFr f (fun b k q => by omega)) ?_ ⟨hb.1.1, hb.1.2.1, hn, hb.1.2.2.2⟩
  obtain ⟨h0, h1, h2, h3, h4, h5⟩ := h.2.2.2.2.1
  refine ⟨h0.fr f, fun k hk => ?_, fun t ht f' hf => ?_, fun k hk => ⟨fun f' hf => ?_, fun hh => ?_⟩, fun k hk => ⟨?_, ?_, fun g hg => ?_⟩, fun o ho f' hf => ?_⟩
  · by_cases e : k = 2
    · subst e; exact iI_s _ _ _ _
    · rw [f.I (by omega), h1 k hk]
      show _ = nI (if k = 2 then _ else (pL s).1 k)
      rw [if_neg e]
  · have ht : t < nTh (pL s) + 1 := ht
    show _ = nI (if t = (pL s).1 2 then adf g z x c f' else (pL s).2.1 t f')
    by_cases e : t = (pL s).1 2
    · rw [if_pos e]
      have e : t = nTh (pL s) := e
      rw [f.I (by omega), e]
      rcases (show f' = 0 ∨ f' = 1 ∨ f' = 2 ∨ f' = 3 by omega) with rfl | rfl | rfl | rfl
      · exact g0
      · exact g1
      · exact g2
      · exact g3
    · rw [if_neg e, f.I (by omega)]
      exact h2 t (by have : (pL s).1 2 = nTh (pL s) := rfl; omega) f' hf
  · rw [f.I (by omega)]; exact (h3 k hk).1 f' hf
  · rw [f.I (by omega)]; exact (h3 k hk).2 hh
  · rw [f.I (by omega)]; exact (h4 k hk).1
  · rw [f.I (by omega)]; exact (h4 k hk).2.1
  · rw [f.I (by omega)]; exact (h4 k hk).2.2 g hg
  · rw [f.I (by omega)]; exact h5 o ho f' hf
theorem RS.adO {x y z : Nat} (h : RS μ M n p s) (hn : nOf (pL s) < 3) (g0 : gI μ (M + 39 + nOf (pL s)) 0 = nI x) (g1 : gI μ (M + 39 + nOf (pL s)) 1 = nI y) (g2 : gI μ (M + 39 + nOf (pL s)) 2 = nI z) : RS (sI μ M 10 (nI (nOf (pL s) + 1))) M n p (s.1, adO (pL s) x y z, s.2.2) := by
  have hb := h.bd
  have f : Fr (fun b k => b = M ∧ k = 10) μ (sI μ M 10 (nI (nOf (pL s) + 1))) := (Fr.refl _ _).put ⟨rfl, rfl⟩
  refine h.land (FQ.ofFr f (fun b k q => by omega)) ?_ ⟨hb.1.1, hb.1.2.1, hb.1.2.2.1, hb.1.2.2.2.1, hb.1.2.2.2.2.1, hn⟩
  obtain ⟨h0, h1, h2, h3, h4, h5⟩ := h.2.2.2.2.1
  refine ⟨h0.fr f, fun k hk => ?_, fun t ht f' hf => ?_, fun k hk => ⟨fun f' hf => ?_, fun hh => ?_⟩, fun k hk => ⟨?_, ?_, fun g hg => ?_⟩, fun o ho f' hf => ?_⟩
  · by_cases e : k = 6
    · subst e; exact iI_s _ _ _ _
    · rw [f.I (by omega), h1 k hk]
      show _ = nI (if k = 6 then _ else (pL s).1 k)
      rw [if_neg e]
  · rw [f.I (by omega)]; exact h2 t ht f' hf
  · rw [f.I (by omega)]; exact (h3 k hk).1 f' hf
  · rw [f.I (by omega)]; exact (h3 k hk).2 hh
  · rw [f.I (by omega)]; exact (h4 k hk).1
  · rw [f.I (by omega)]; exact (h4 k hk).2.1
  · rw [f.I (by omega)]; exact (h4 k hk).2.2 g hg
  · have ho : o < nOf (pL s) + 1 := ho
    show _ = nI (if o = (pL s).1 6 then adf x y z 0 f' else (pL s).2.2.2.2 o f')
    by_cases e : o = (pL s).1 6
    · rw [if_pos e]
      have e : o = nOf (pL s) := e
      rw [f.I (by omega), e]
      rcases (show f' = 0 ∨ f' = 1 ∨ f' = 2 by omega) with rfl | rfl | rfl
      · exact g0
      · exact g1
      · exact g2
    · rw [if_neg e, f.I (by omega)]
      exact h5 o (by have : (pL s).1 6 = nOf (pL s) := rfl; omega) f' hf
theorem RS.adH {no pe : Nat} {w : Nat → Nat} (h : RS μ M n p s) (hn : nHo (pL s) < 3) (g1 : gI μ (M + 33 + 2 * nHo (pL s)) 1 = nI no) (g2 : gI μ (M + 33 + 2 * nHo (pL s)) 2 = nI pe) (gw : ∀ g, g < 4 → gI μ (M + 34 + 2 * nHo (pL s)) g = nI (w g)) : RS (sI μ M 9 (nI (nHo (pL s) + 1))) M n p (s.1, adH (pL s) no pe w, s.2.2) := by
  have hb := h.bd
  have f : Fr (fun b k => b = M ∧ k = 9) μ (sI μ M 9 (nI (nHo (pL s) + 1))) := (Fr.refl _ _).put ⟨rfl, rfl⟩
  refine h.land (FQ.ofFr f (fun b k q => by omega)) ?_ ⟨hb.1.1, hb.1.2.1, hb.1.2.2.1, hb.1.2.2.2.1, hn, hb.1.2.2.2.2.2⟩
  obtain ⟨h0, h1, h2, h3, h4, h5⟩ := h.2.2.2.2.1
  refine ⟨h0.fr f, fun k hk => ?_, fun t ht f' hf => ?_, fun k hk => ⟨fun f' hf => ?_, fun hh => ?_⟩, fun k hk => ?_, fun o ho f' hf => ?_⟩
  · by_cases e : k = 5
    · subst e; exact iI_s _ _ _ _
    · rw [f.I (by omega), h1 k hk]
      show _ = nI (if k = 5 then _ else (pL s).1 k)
      rw [if_neg e]
  · rw [f.I (by omega)]; exact h2 t ht f' hf
  · rw [f.I (by omega)]; exact (h3 k hk).1 f' hf
  · rw [f.I (by omega)]; exact (h3 k hk).2 hh
  · have hk : k < nHo (pL s) + 1 := hk
    show _ = nI (if k = (pL s).1 5 then hof no pe w 0 else (pL s).2.2.2.1 k 0) ∧ _ = nI (if k = (pL s).1 5 then hof no pe w 1 else (pL s).2.2.2.1 k 1) ∧ ∀ g, g < 4 → _ = nI (if k = (pL s).1 5 then hof no pe w (2 + g) else (pL s).2.2.2.1 k (2 + g))
    rw [f.I (by omega), f.I (by omega)]
    by_cases e : k = (pL s).1 5
    · rw [if_pos e, if_pos e]
      have e' : k = nHo (pL s) := e
      refine ⟨by rw [e']; exact g1, by rw [e']; exact g2, fun g hg => ?_⟩
      rw [if_pos e, f.I (by omega), e']
      unfold hof
      rw [if_neg (by omega), if_neg (by omega), show 2 + g - 2 = g by omega]
      exact gw g hg
    · rw [if_neg e, if_neg e]
      have q := h4 k (by have : (pL s).1 5 = nHo (pL s) := rfl; omega)
      refine ⟨q.1, q.2.1, fun g hg => ?_⟩
      rw [if_neg e, f.I (by omega)]
      exact q.2.2 g hg
  · rw [f.I (by omega)]; exact h5 o ho f' hf
theorem RS.tl (h : RS μ M n p s) : RS (sI μ M 8 (nI (nCh (pL s)))) M n p (s.1, tll (pL s), s.2.2) := by
  have hb := h.bd
  have f : Fr (fun b k => b = M ∧ k = 8) μ (sI μ M 8 (nI (nCh (pL s)))) := (Fr.refl _ _).put ⟨rfl, rfl⟩
  refine h.land (FQ.ofFr f (fun b k q => by omega)) ?_ h.2.2.2.2.2.2.2
  obtain ⟨h0, h1, h2, h3, h4, h5⟩ := h.2.2.2.2.1
  refine ⟨h0.fr f, fun k hk => ?_, fun t ht f' hf => ?_, fun k hk => ⟨fun f' hf => ?_, fun hh => ?_⟩, fun k hk => ⟨?_, ?_, fun g hg => ?_⟩, fun o ho f' hf => ?_⟩
  · by_cases e : k = 4
    · subst e; exact iI_s _ _ _ _
    · rw [f.I (by omega), h1 k hk]
      show _ = nI (if k = 4 then _ else (pL s).1 k)
      rw [if_neg e]
  · rw [f.I (by omega)]; exact h2 t ht f' hf
  · rw [f.I (by omega)]; exact (h3 k hk).1 f' hf
  · rw [f.I (by omega)]; exact (h3 k hk).2 hh
  · rw [f.I (by omega)]; exact (h4 k hk).1
  · rw [f.I (by omega)]; exact (h4 k hk).2.1
  · rw [f.I (by omega)]; exact (h4 k hk).2.2 g hg
  · rw [f.I (by omega)]; exact h5 o ho f' hf
end T4
section T5
variable {l : Launch} {G : ax_G} {μ : ax_M} {M n : Nat} {p : Nat → Nat} {s : PS}
theorem d173 {K : Int32 → ax_M → Prop} (h : RS μ M n p s) (q : ∀ μ' v, FQ (PM M) μ μ' → RR μ' v M n p (rMo p n s) → K v μ') : ax_CI l G 173 [ax_r (some 150)] μ K := by
  have hb := h.bd
  unfold rMo at q
  refine ax_Ct.of (by decide) (Nat.le_of_ble_eq_true rfl) (sg173_0 l G _ 150 _ ?_)
  try simp (disch := omega) only [h.1.1, h.1.2.1.all, h.2.1.1, h.2.2.1.all, h.2.2.2.2.1.1.all, h.2.2.2.2.1.all, h.2.2.2.2.2.1.1, h.2.2.2.2.2.1.2, wr_s, in_nI, clN, ti_z, ti_l, true_and, and_true, kI, zI, rI, kL, zL, rL, kR, zR, nnI, nnL, nnR, iL, iR, lI, lR, exi, exl, exv, eq_self, nI_add, nI_mul, nI_sub, nI_ltI, nI_leI, nI_eq, q0, q1, q2, q3, q4, q5, q6, q10, q100, br_Tr, br_Fa, iI_s, iI_n, bI_q0, bI_q1, or_true, true_or, not_true_eq_false, not_false_eq_true, nI_l, ge64, Nat.lt_irrefl, Nat.add_sub_cancel, Nat.not_lt_zero, lN_0, lN_1e4, lN_1e6, lN_1e3, lN_add, lN_mul, lN_ltI, lN_leI, lN_eqI, lN_i, lcE, lcLe, lcLt, lN_div, q7, q12, q20, q99, q200, q999, q1e4, if_true, if_false, Nat.le_refl, q8, q11, q16, q18, q32, q44, q48, q57, q59, q97, q122, q900]
  refine ax_brc (fun c => ?_) (fun c => ?_)
  · rw [if_neg (by omega)] at q
    refine e105 h (fun μ1 f1 h1 => ?_)
    try simp (disch := omega) only [h1.1.1, h1.1.2.1.all, h1.2.1.1, h1.2.2.1.all, h1.2.2.2.2.1.1.all, h1.2.2.2.2.1.all, h1.2.2.2.2.2.1.1, h1.2.2.2.2.2.1.2, wr_s, in_nI, clN, ti_z, ti_l, true_and, and_true, kI, zI, rI, kL, zL, rL, kR, zR, nnI, nnL, nnR, iL, iR, lI, lR, exi, exl, exv, eq_self, nI_add, nI_mul, nI_sub, nI_ltI, nI_leI, nI_eq, q0, q1, q2, q3, q4, q5, q6, q10, q100, br_Tr, br_Fa, iI_s, iI_n, bI_q0, bI_q1, or_true, true_or, not_true_eq_false, not_false_eq_true, nI_l, ge64, Nat.lt_irrefl, Nat.add_sub_cancel, Nat.not_lt_zero, lN_0, lN_1e4, lN_1e6, lN_1e3, lN_add, lN_mul, lN_ltI, lN_leI, lN_eqI, lN_i, lcE, lcLe, lcLt, lN_div, q7, q12, q20, q99, q200, q999, q1e4, if_true, if_false, Nat.le_refl, q8, q11, q16, q18, q32, q44, q48, q57, q59, q97, q122, q900]
    refine d141 h1 (by omega) (by omega) (fun μ2 v f2 h2 => ?_)
    have f12 := (f1.mono (P' := PM M) (fun b q => by have q : b = 155 := q; omega)).trans (f2.mono (fun b q => by rcases q with q | q <;> omega))
    cases e : tWh p n 2 12 (ad p n s) with
    | inl e1 =>
      rw [e] at q h2
      obtain ⟨rfl, h2⟩ := h2
      try simp (disch := omega) only [wr_s, in_nI, clN, ti_z, ti_l, true_and, and_true, kI, zI, rI, kL, zL, rL, kR, zR, nnI, nnL, nnR, iL, iR, lI, lR, exi, exl, exv, eq_self, nI_add, nI_mul, nI_sub, nI_ltI, nI_leI, nI_eq, q0, q1, q2, q3, q4, q5, q6, q10, q100, br_Tr, br_Fa, iI_s, iI_n, bI_q0, bI_q1, or_true, true_or, not_true_eq_false, not_false_eq_true, nI_l, ge64, Nat.lt_irrefl, Nat.add_sub_cancel, Nat.not_lt_zero, lN_0, lN_1e4, lN_1e6, lN_1e3, lN_add, lN_mul, lN_ltI, lN_leI, lN_eqI, lN_i, lcE, lcLe, lcLt, lN_div, q7, q12, q20, q99, q200, q999, q1e4, if_true, if_false, Nat.le_refl, q8, q11, q16, q18, q32, q44, q48, q57, q59, q97, q122, q900]
      exact q _ _ f12 ⟨rfl, h2⟩
    | inr r =>
      rw [e] at q h2
      obtain ⟨rfl, h3, h2⟩ := h2
      have hr := tWh_2 e
      try simp (disch := omega) only [h2.1.1, h2.1.2.1.all, h2.2.1.1, h2.2.2.1.all, h2.2.2.2.2.1.1.all, h2.2.2.2.2.1.all, h2.2.2.2.2.2.1.1, h2.2.2.2.2.2.1.2, h3, show ¬ (1 = 0) by omega, wr_s, in_nI, clN, ti_z, ti_l, true_and, and_true, kI, zI, rI, kL, zL, rL, kR, zR, nnI, nnL, nnR, iL, iR, lI, lR, exi, exl, exv, eq_self, nI_add, nI_mul, nI_sub, nI_ltI, nI_leI, nI_eq, q0, q1, q2, q3, q4, q5, q6, q10, q100, br_Tr, br_Fa, iI_s, iI_n, bI_q0, bI_q1, or_true, true_or, not_true_eq_false, not_false_eq_true, nI_l, ge64, Nat.lt_irrefl, Nat.add_sub_cancel, Nat.not_lt_zero, lN_0, lN_1e4, lN_1e6, lN_1e3, lN_add, lN_mul, lN_ltI, lN_leI, lN_eqI, lN_i, lcE, lcLe, lcLt, lN_div, q7, q12, q20, q99, q200, q999, q1e4, if_true, if_false, Nat.le_refl, q8, q11, q16, q18, q32, q44, q48, q57, q59, q97, q122, q900]
      exact q _ _ (f12.put (by omega)) ⟨rfl, h2.mo hr.2.2.1⟩
  · rw [if_pos (by omega)] at q
    refine d32 h (fun μ1 f1 h1 => ?_)
    try simp (disch := omega) only [wr_s, in_nI, clN, ti_z, ti_l, true_and, and_true, kI, zI, rI, kL, zL, rL, kR, zR, nnI, nnL, nnR, iL, iR, lI, lR, exi, exl, exv, eq_self, nI_add, nI_mul, nI_sub, nI_ltI, nI_leI, nI_eq, q0, q1, q2, q3, q4, q5, q6, q10, q100, br_Tr, br_Fa, iI_s, iI_n, bI_q0, bI_q1, or_true, true_or, not_true_eq_false, not_false_eq_true, nI_l, ge64, Nat.lt_irrefl, Nat.add_sub_cancel, Nat.not_lt_zero, lN_0, lN_1e4, lN_1e6, lN_1e3, lN_add, lN_mul, lN_ltI, lN_leI, lN_eqI, lN_i, lcE, lcLe, lcLt, lN_div, q7, q12, q20, q99, q200, q999, q1e4, if_true, if_false, Nat.le_refl, q8, q11, q16, q18, q32, q44, q48, q57, q59, q97, q122, q900]
    exact q _ _ (f1.mono (fun b q => by have q : b = 150 := q; omega)) ⟨rfl, h1⟩
theorem d172 {K : Int32 → ax_M → Prop} (hG : GC G) (h : RS μ M n p s) (hm : nGr (pL s) < 4 → (pM s).1 < 18) (q : ∀ μ' v, FQ (PM M) μ μ' → RR μ' v M n p (rGr p n s) → K v μ') : ax_CI l G 172 [ax_r (some 150)] μ K := by
  have hb := h.bd
  unfold rGr at q
  refine ax_Ct.of (by decide) (Nat.le_of_ble_eq_true rfl) (sg172_0 l G _ 150 _ ?_)
  try simp (disch := omega) only [h.1.1, h.1.2.1.all, h.2.1.1, h.2.2.1.all, h.2.2.2.2.1.1.all, h.2.2.2.2.1.all, h.2.2.2.2.2.1.1, h.2.2.2.2.2.1.2, wr_s, in_nI, clN, ti_z, ti_l, true_and, and_true, kI, zI, rI, kL, zL, rL, kR, zR, nnI, nnL, nnR, iL, iR, lI, lR, exi, exl, exv, eq_self, nI_add, nI_mul, nI_sub, nI_ltI, nI_leI, nI_eq, q0, q1, q2, q3, q4, q5, q6, q10, q100, br_Tr, br_Fa, iI_s, iI_n, bI_q0, bI_q1, or_true, true_or, not_true_eq_false, not_false_eq_true, nI_l, ge64, Nat.lt_irrefl, Nat.add_sub_cancel, Nat.not_lt_zero, lN_0, lN_1e4, lN_1e6, lN_1e3, lN_add, lN_mul, lN_ltI, lN_leI, lN_eqI, lN_i, lcE, lcLe, lcLt, lN_div, q7, q12, q20, q99, q200, q999, q1e4, if_true, if_false, Nat.le_refl, q8, q11, q16, q18, q32, q44, q48, q57, q59, q97, q122, q900]
  refine ax_brc (fun c => ?_) (fun c => ?_)
  · rw [if_neg (by omega)] at q
    refine e105 h (fun μ1 f1 h1 => ?_)
    have hb1 := h1.bd
    try simp (disch := omega) only [h1.1.1, h1.1.2.1.all, h1.2.1.1, h1.2.2.1.all, h1.2.2.2.2.1.1.all, h1.2.2.2.2.1.all, h1.2.2.2.2.2.1.1, h1.2.2.2.2.2.1.2, wr_s, in_nI, clN, ti_z, ti_l, true_and, and_true, kI, zI, rI, kL, zL, rL, kR, zR, nnI, nnL, nnR, iL, iR, lI, lR, exi, exl, exv, eq_self, nI_add, nI_mul, nI_sub, nI_ltI, nI_leI, nI_eq, q0, q1, q2, q3, q4, q5, q6, q10, q100, br_Tr, br_Fa, iI_s, iI_n, bI_q0, bI_q1, or_true, true_or, not_true_eq_false, not_false_eq_true, nI_l, ge64, Nat.lt_irrefl, Nat.add_sub_cancel, Nat.not_lt_zero, lN_0, lN_1e4, lN_1e6, lN_1e3, lN_add, lN_mul, lN_ltI, lN_leI, lN_eqI, lN_i, lcE, lcLe, lcLt, lN_div, q7, q12, q20, q99, q200, q999, q1e4, if_true, if_false, Nat.le_refl, q8, q11, q16, q18, q32, q44, q48, q57, q59, q97, q122, q900]
    refine d143 hG h1 (hm (by omega)) (by omega) (by omega) (fun μ2 v f2 h2 => ?_)
    have f12 := (f1.mono (P' := PM M) (fun b q => by have q : b = 155 := q; omega)).trans (f2.mono (fun b q => by have q : 150 ≤ b ∧ b < 156 := q; omega))
    rw [show nGr (pL (ad p n s)) = nGr (pL s) from rfl] at h2
    cases e : nmd p n 0 (nGr (pL s)) (ad p n s) with
    | inl e1 =>
      rw [e] at q h2
      obtain ⟨rfl, h2⟩ := h2
      try simp (disch := omega) only [wr_s, in_nI, clN, ti_z, ti_l, true_and, and_true, kI, zI, rI, kL, zL, rL, kR, zR, nnI, nnL, nnR, iL, iR, lI, lR, exi, exl, exv, eq_self, nI_add, nI_mul, nI_sub, nI_ltI, nI_leI, nI_eq, q0, q1, q2, q3, q4, q5, q6, q10, q100, br_Tr, br_Fa, iI_s, iI_n, bI_q0, bI_q1, or_true, true_or, not_true_eq_false, not_false_eq_true, nI_l, ge64, Nat.lt_irrefl, Nat.add_sub_cancel, Nat.not_lt_zero, lN_0, lN_1e4, lN_1e6, lN_1e3, lN_add, lN_mul, lN_ltI, lN_leI, lN_eqI, lN_i, lcE, lcLe, lcLt, lN_div, q7, q12, q20, q99, q200, q999, q1e4, if_true, if_false, Nat.le_refl, q8, q11, q16, q18, q32, q44, q48, q57, q59, q97, q122, q900]
      exact q _ _ f12 ⟨rfl, h2⟩
    | inr r =>
      rw [e] at q h2
      obtain ⟨rfl, h2⟩ := h2
      have hr := (nmd_2 e).1
      have hl : pL r = pL s := by rw [hr]; rfl
      have hb2 := h2.bd
      try simp (disch := omega) only [h2.1.1, h2.1.2.1.all, h2.2.1.1, h2.2.2.1.all, h2.2.2.2.2.1.1.all, h2.2.2.2.2.1.all, h2.2.2.2.2.2.1.1, h2.2.2.2.2.2.1.2, show ¬ (1 = 0) by omega, wr_s, in_nI, clN, ti_z, ti_l, true_and, and_true, kI, zI, rI, kL, zL, rL, kR, zR, nnI, nnL, nnR, iL, iR, lI, lR, exi, exl, exv, eq_self, nI_add, nI_mul, nI_sub, nI_ltI, nI_leI, nI_eq, q0, q1, q2, q3, q4, q5, q6, q10, q100, br_Tr, br_Fa, iI_s, iI_n, bI_q0, bI_q1, or_true, true_or, not_true_eq_false, not_false_eq_true, nI_l, ge64, Nat.lt_irrefl, Nat.add_sub_cancel, Nat.not_lt_zero, lN_0, lN_1e4, lN_1e6, lN_1e3, lN_add, lN_mul, lN_ltI, lN_leI, lN_eqI, lN_i, lcE, lcLe, lcLt, lN_div, q7, q12, q20, q99, q200, q999, q1e4, if_true, if_false, Nat.le_refl, q8, q11, q16, q18, q32, q44, q48, q57, q59, q97, q122, q900]
      exact q _ _ (f12.put (by omega)) ⟨rfl, h2.inc (by rw [hl]; omega)⟩
  · rw [if_pos (by omega)] at q
    refine d32 h (fun μ1 f1 h1 => ?_)
    try simp (disch := omega) only [wr_s, in_nI, clN, ti_z, ti_l, true_and, and_true, kI, zI, rI, kL, zL, rL, kR, zR, nnI, nnL, nnR, iL, iR, lI, lR, exi, exl, exv, eq_self, nI_add, nI_mul, nI_sub, nI_ltI, nI_leI, nI_eq, q0, q1, q2, q3, q4, q5, q6, q10, q100, br_Tr, br_Fa, iI_s, iI_n, bI_q0, bI_q1, or_true, true_or, not_true_eq_false, not_false_eq_true, nI_l, ge64, Nat.lt_irrefl, Nat.add_sub_cancel, Nat.not_lt_zero, lN_0, lN_1e4, lN_1e6, lN_1e3, lN_add, lN_mul, lN_ltI, lN_leI, lN_eqI, lN_i, lcE, lcLe, lcLt, lN_div, q7, q12, q20, q99, q200, q999, q1e4, if_true, if_false, Nat.le_refl, q8, q11, q16, q18, q32, q44, q48, q57, q59, q97, q122, q900]
    exact q _ _ (f1.mono (fun b q => by have q : b = 150 := q; omega)) ⟨rfl, h1⟩
end T5
