/-! the model: a line, the whole text -/
def Tt (p : Nat → Nat) (n : Nat) (a b : Tk) : Prop := ∃ i, a.2.2.1 ≤ i ∧ i ≤ n ∧ b = adv p n i
section U3
variable {p : Nat → Nat} {n : Nat} {s s' : PS}
theorem Tt.le {a b : Tk} (h : Tt p n a b) : a.2.2.1 ≤ b.2.1 ∧ b.2.1 ≤ b.2.2.1 ∧ b.2.2.1 ≤ n := by
  obtain ⟨i, h1, h2, h3⟩ := h
  have q := adv_ok (p := p) h2
  rw [← h3] at q
  exact ⟨by omega, q.1.1, q.1.2.1⟩
theorem Tt.nx {a : Tk} (h : a.2.2.1 ≤ n) : Tt p n a (adv p n a.2.2.1) := ⟨_, Nat.le_refl _, h, rfl⟩
theorem Tt.tr {a b c : Tk} (h : Tt p n a b) (k : Tt p n b c) : Tt p n a c := by
  have hl := h.le
  obtain ⟨j, k1, k2, k3⟩ := k
  exact ⟨j, by omega, k2, k3⟩
theorem Tt.go {a : Tk} {s : PS} (h : Tt p n a s.1) : Tt p n a (ad p n s).1 := h.tr (Tt.nx h.le.2.2)
theorem rWa_t {a : Tk} : ∀ (f : Nat) (w : Nat → Nat) (s : PS) (r : (Nat → Nat) × PS), Tt p n a s.1 → rWa p n f w s = .inr r → Tt p n a r.2.1
  | 0, w, s, r, _, h => by cases h
  | f + 1, w, s, r, hs, h => by
    unfold rWa at h
    obtain ⟨g, h1, h⟩ := bnd_inv h
    split at h
    · cases h
    obtain ⟨v, h2, h⟩ := bnd_inv h
    have k2 : Tt p n a v.2.1 := by rw [(tWh_2 h2).1]; exact hs.go.go
    split at h
    · exact rWa_t f _ _ r k2.go h
    · cases h
      exact k2
theorem rLn_t (hs : tE s ≤ n) (h : rLn p n s = .inr s') : Tt p n s.1 s'.1 := by
  have h0 : Tt p n s.1 (ad p n s).1 := Tt.nx hs
  unfold rLn at h
  split at h
  · unfold rMo at h
    split at h
    · cases h
    obtain ⟨v, h1, h⟩ := bnd_inv h
    cases h
    rw [show v.2 = _ from (tWh_2 h1).1]; exact h0.go
  split at h
  · unfold rGr at h
    split at h
    · cases h
    obtain ⟨v, h1, h⟩ := bnd_inv h
    cases h
    rw [(nmd_2 h1).1]; exact h0.go
  split at h
  · unfold rTh at h
    split at h
    · cases h
    obtain ⟨s1, h1, h⟩ := bnd_inv h
    obtain ⟨s2, h2, h⟩ := bnd_inv h
    obtain ⟨g, h3, h⟩ := bnd_inv h
    obtain ⟨s3, h4, h⟩ := bnd_inv h
    obtain ⟨z, h5, h⟩ := bnd_inv h
    obtain ⟨s4, h6, h⟩ := bnd_inv h
    obtain ⟨f, h7, h⟩ := bnd_inv h
    obtain ⟨s5, h8, h⟩ := bnd_inv h
    obtain ⟨c, h9, h⟩ := bnd_inv h
    cases h
    have k1 : Tt p n s.1 s1.1 := by rw [(nmd_2 h1).1]; exact h0.go
    have k2 : Tt p n s.1 s2.1 := by rw [(tWd_2 h2).1]; exact k1.go
    have k3 : Tt p n s.1 g.2.1 := by rw [(tlA_2 h3).1]; exact k2.go
    have k4 : Tt p n s.1 s3.1 := by rw [(tWd_2 h4).1]; exact k3.go
    have k5 : Tt p n s.1 z.2.1 := by rw [(tWh_2 h5).1]; exact k4.go
    have k6 : Tt p n s.1 s4.1 := by rw [(tWd_2 h6).1]; exact k5.go
    have k7 : Tt p n s.1 f.2.1 := by rw [(tWh_2 h7).1]; exact k6.go
    have k8 : Tt p n s.1 s5.1 := by rw [(tWd_2 h8).1]; exact k7.go
    show Tt p n s.1 c.2.1
    rw [(tWh_2 h9).1]; exact k8.go
  split at h
  · unfold rCh at h
    split at h
    · cases h
    obtain ⟨t, h1, h⟩ := bnd_inv h
    obtain ⟨s1, h2, h⟩ := bnd_inv h
    obtain ⟨m, h3, h⟩ := bnd_inv h
    obtain ⟨w, h4, h⟩ := bnd_inv h
    obtain ⟨b, h5, h⟩ := bnd_inv h
    cases h
    have k1 : Tt p n s.1 t.2.1 := by rw [(tlA_2 h1).1]; exact h0.go
    have k2 : Tt p n s.1 s1.1 := by rw [(tWd_2 h2).1]; exact k1.go
    have k3 : Tt p n s.1 m.2.1 := by rw [(tWh_2 h3).1]; exact k2.go
    have k4 : Tt p n s.1 w.2.1 := by rw [(one_2 h4).1]; exact k3.go
    show Tt p n s.1 b.2.1
    unfold rBy at h5
    split at h5
    · rw [(tWh_2 h5).1]; exact k4.go
    · cases h5; exact k4
  split at h
  · unfold rHo at h
    split at h
    · cases h
    obtain ⟨s1, h1, h⟩ := bnd_inv h
    obtain ⟨s2, h2, h⟩ := bnd_inv h
    obtain ⟨no, h3, h⟩ := bnd_inv h
    obtain ⟨s3, h4, h⟩ := bnd_inv h
    obtain ⟨pe, h5, h⟩ := bnd_inv h
    obtain ⟨s4, h6, h⟩ := bnd_inv h
    obtain ⟨w, h7, h⟩ := bnd_inv h
    cases h
    have k1 : Tt p n s.1 s1.1 := by rw [(nmd_2 h1).1]; exact h0.go
    have k2 : Tt p n s.1 s2.1 := by rw [(tWd_2 h2).1]; exact k1.go
    have k3 : Tt p n s.1 no.2.1 := by rw [(tWh_2 h3).1]; exact k2.go
    have k4 : Tt p n s.1 s3.1 := by rw [(tWd_2 h4).1]; exact k3.go
    have k5 : Tt p n s.1 pe.2.1 := by rw [(tWh_2 h5).1]; exact k4.go
    have k6 : Tt p n s.1 s4.1 := by rw [(tWd_2 h6).1]; exact k5.go
    exact rWa_t _ _ _ _ k6 h7
  split at h
  · unfold rOf at h
    split at h
    · cases h
    obtain ⟨s1, h1, h⟩ := bnd_inv h
    obtain ⟨x, h2, h⟩ := bnd_inv h
    obtain ⟨y, h3, h⟩ := bnd_inv h
    obtain ⟨z, h4, h⟩ := bnd_inv h
    cases h
    have k1 : Tt p n s.1 s1.1 := by rw [(nmd_2 h1).1]; exact h0.go
    have k2 : Tt p n s.1 x.2.1 := by rw [(one_2 h2).1]; exact k1.go
    have k3 : Tt p n s.1 y.2.1 := by rw [(one_2 h3).1]; exact k2.go
    show Tt p n s.1 z.2.1
    rw [(one_2 h4).1]; exact k3.go
  · cases h
theorem rMo_H (h : rMo p n s = .inr s') : nHo (pL s') = nHo (pL s) := by
  unfold rMo at h
  split at h
  · cases h
  obtain ⟨v, h1, h⟩ := bnd_inv h
  cases h
  show nHo (pL v.2) = _
  rw [(tWh_2 h1).1]; rfl
theorem rGr_H (h : rGr p n s = .inr s') : nHo (pL s') = nHo (pL s) := by
  unfold rGr at h
  split at h
  · cases h
  obtain ⟨v, h1, h⟩ := bnd_inv h
  cases h
  show nHo (pL v) = _
  rw [(nmd_2 h1).1]; rfl
theorem rTh_H (h : rTh p n s = .inr s') : nHo (pL s') = nHo (pL s) := by
  unfold rTh at h
  split at h
  · cases h
  obtain ⟨s1, h1, h⟩ := bnd_inv h
  obtain ⟨s2, h2, h⟩ := bnd_inv h
  obtain ⟨g, h3, h⟩ := bnd_inv h
  obtain ⟨s3, h4, h⟩ := bnd_inv h
  obtain ⟨z, h5, h⟩ := bnd_inv h
  obtain ⟨s4, h6, h⟩ := bnd_inv h
  obtain ⟨f, h7, h⟩ := bnd_inv h
  obtain ⟨s5, h8, h⟩ := bnd_inv h
  obtain ⟨c, h9, h⟩ := bnd_inv h
  cases h
  show nHo (pL c.2) = _
  rw [(tWh_2 h9).1, (tWd_2 h8).1, (tWh_2 h7).1, (tWd_2 h6).1, (tWh_2 h5).1, (tWd_2 h4).1, (tlA_2 h3).1, (tWd_2 h2).1, (nmd_2 h1).1]; rfl
theorem rCh_H (h : rCh p n s = .inr s') : nHo (pL s') = nHo (pL s) := by
  unfold rCh at h
  split at h
  · cases h
  obtain ⟨t, h1, h⟩ := bnd_inv h
  obtain ⟨s1, h2, h⟩ := bnd_inv h
  obtain ⟨m, h3, h⟩ := bnd_inv h
  obtain ⟨w, h4, h⟩ := bnd_inv h
  obtain ⟨b, h5, h⟩ := bnd_inv h
  cases h
  have e : pL b.2 = pL w.2 := by
    unfold rBy at h5
    split at h5
    · rw [(tWh_2 h5).1]; rfl
    · cases h5; rfl
  show nHo (pL b.2) = _
  rw [e, (one_2 h4).1, (tWh_2 h3).1, (tWd_2 h2).1, (tlA_2 h1).1]; rfl
theorem rOf_H (h : rOf p n s = .inr s') : nHo (pL s') = nHo (pL s) := by
  unfold rOf at h
  split at h
  · cases h
  obtain ⟨s1, h1, h⟩ := bnd_inv h
  obtain ⟨x, h2, h⟩ := bnd_inv h
  obtain ⟨y, h3, h⟩ := bnd_inv h
  obtain ⟨z, h4, h⟩ := bnd_inv h
  cases h
  show nHo (pL z.2) = _
  rw [(one_2 h4).1, (one_2 h3).1, (one_2 h2).1, (nmd_2 h1).1]; rfl
theorem rHo_H (h : rHo p n s = .inr s') : nHo (pL s') = nHo (pL s) + 1 := by
  unfold rHo at h
  split at h
  · cases h
  obtain ⟨s1, h1, h⟩ := bnd_inv h
  obtain ⟨s2, h2, h⟩ := bnd_inv h
  obtain ⟨no, h3, h⟩ := bnd_inv h
  obtain ⟨s3, h4, h⟩ := bnd_inv h
  obtain ⟨pe, h5, h⟩ := bnd_inv h
  obtain ⟨s4, h6, h⟩ := bnd_inv h
  obtain ⟨w, h7, h⟩ := bnd_inv h
  cases h
  have e : pL w.2 = pL s4 := by show w.2.2.1 = _; rw [(rWa_2 _ _ _ _ (fun _ => Nat.zero_le _) h7).1]
  show nHo (pL w.2) + 1 = _
  rw [e, (tWd_2 h6).1, (tWh_2 h5).1, (tWd_2 h4).1, (tWh_2 h3).1, (tWd_2 h2).1, (nmd_2 h1).1]; rfl
end U3
abbrev PZ (N b k : Nat) : Prop := (b = 332 ∧ 8 ≤ k) ∨ (N ≤ b ∧ b < N + 18)
def Wz (μ : ax_M) (N : Nat) (a : Ld) : Prop := ∀ k, 4 * nHo a ≤ k → k < 12 → gI μ (N + 11) k = nI 0
section V7
variable {l : Launch} {G : ax_G} {μ : ax_M} {p : Nat → Nat} {n N : Nat} {s : PS} {e : Nat × Nat}
theorem d246 {K : ax_M → Prop} (hG : GC G) (h : MR μ N n p s) (hI : NI (pL s) (pM s)) (hz : Wz μ N (pL s)) (q : ∀ μ', FK (PZ N) μ μ' → MQ1 μ' N n p (rLn p n s) → (∀ s', rLn p n s = .inr s' → Wz μ' N (pL s')) → K μ') : ax_CV l G 246 [ax_r (some 332)] μ K := by
  have hb := h.bd
  have hc := hI.1
  have py : ∀ b k, PY N b k → PZ N b k := fun b k q => by rcases q with q | q; exact Or.inl q; exact Or.inr ⟨q.1, q.2.1⟩
  have wz : ∀ (μ' : ax_M) (s' : PS), FK (PY N) μ μ' → nHo (pL s') = nHo (pL s) → Wz μ' N (pL s') := by
    intro μ' s' f e k k1 k2
    rw [f.I (by omega)]
    exact hz k (by rw [← e]; exact k1) k2
  unfold rLn at q
  refine ax_Ct.of (by decide) (Nat.le_of_ble_eq_true rfl) (sg246_0 l G _ 332 _ ?_)
  try simp (disch := omega) only [h.1.1.all, h.1.2.1, h.2.1, h.2.2.1.2.1, h.2.2.1.2.2.1, h.2.2.2.2.1.1.all, h.cn, h.2.2.2.2.2.1.1, h.2.2.2.2.2.1.2, wr_s, in_nI, clN, ti_z, ti_l, true_and, and_true, kI, zI, rI, kL, zL, rL, kR, zR, nnI, nnL, nnR, iL, iR, lI, lR, exi, exl, exv, eq_self, nI_add, nI_mul, nI_sub, nI_ltI, nI_leI, nI_eq, q0, q1, q2, q3, q4, q5, q6, q10, q100, br_Tr, br_Fa, iI_s, iI_n, bI_q0, bI_q1, or_true, true_or, not_true_eq_false, not_false_eq_true, nI_l, ge64, Nat.lt_irrefl, Nat.add_sub_cancel, Nat.not_lt_zero, lN_0, lN_1e4, lN_1e6, lN_1e3, lN_add, lN_mul, lN_ltI, lN_leI, lN_eqI, lN_i, lcE, lcLe, lcLt, lN_div, q7, q12, q20, q99, q200, q999, q1e4, if_true, if_false, Nat.le_refl, q8, q11, q16, q18, q32, q44, q48, q57, q59, q97, q122, q900]
  refine f201 hG (b := 7) (by omega) (by omega) h ?_
  try simp (disch := omega) only [h.1.1.all, h.1.2.1, h.2.1, h.2.2.1.2.1, h.2.2.1.2.2.1, h.2.2.2.2.1.1.all, h.cn, h.2.2.2.2.2.1.1, h.2.2.2.2.2.1.2, wr_s, in_nI, clN, ti_z, ti_l, true_and, and_true, kI, zI, rI, kL, zL, rL, kR, zR, nnI, nnL, nnR, iL, iR, lI, lR, exi, exl, exv, eq_self, nI_add, nI_mul, nI_sub, nI_ltI, nI_leI, nI_eq, q0, q1, q2, q3, q4, q5, q6, q10, q100, br_Tr, br_Fa, iI_s, iI_n, bI_q0, bI_q1, or_true, true_or, not_true_eq_false, not_false_eq_true, nI_l, ge64, Nat.lt_irrefl, Nat.add_sub_cancel, Nat.not_lt_zero, lN_0, lN_1e4, lN_1e6, lN_1e3, lN_add, lN_mul, lN_ltI, lN_leI, lN_eqI, lN_i, lcE, lcLe, lcLt, lN_div, q7, q12, q20, q99, q200, q999, q1e4, if_true, if_false, Nat.le_refl, q8, q11, q16, q18, q32, q44, q48, q57, q59, q97, q122, q900]
  refine ax_brc (fun c => ?_) (fun c => ?_)
  rotate_left
  · have c : tW s = sW 7 := by simpa using c
    rw [if_pos c] at q
    exact d181 hG h (tW_5 h (sW_ok 7 (by omega) (by omega)).2 c) (fun μ' f hr => q μ' (f.mono py) hr (fun s' es => wz μ' s' f (rMo_H es)))
  rw [if_neg (of_decide_eq_false c)] at q
  refine f201 hG (b := 8) (by omega) (by omega) h ?_
  try simp (disch := omega) only [h.1.1.all, h.1.2.1, h.2.1, h.2.2.1.2.1, h.2.2.1.2.2.1, h.2.2.2.2.1.1.all, h.cn, h.2.2.2.2.2.1.1, h.2.2.2.2.2.1.2, wr_s, in_nI, clN, ti_z, ti_l, true_and, and_true, kI, zI, rI, kL, zL, rL, kR, zR, nnI, nnL, nnR, iL, iR, lI, lR, exi, exl, exv, eq_self, nI_add, nI_mul, nI_sub, nI_ltI, nI_leI, nI_eq, q0, q1, q2, q3, q4, q5, q6, q10, q100, br_Tr, br_Fa, iI_s, iI_n, bI_q0, bI_q1, or_true, true_or, not_true_eq_false, not_false_eq_true, nI_l, ge64, Nat.lt_irrefl, Nat.add_sub_cancel, Nat.not_lt_zero, lN_0, lN_1e4, lN_1e6, lN_1e3, lN_add, lN_mul, lN_ltI, lN_leI, lN_eqI, lN_i, lcE, lcLe, lcLt, lN_div, q7, q12, q20, q99, q200, q999, q1e4, if_true, if_false, Nat.le_refl, q8, q11, q16, q18, q32, q44, q48, q57, q59, q97, q122, q900]
  refine ax_brc (fun c => ?_) (fun c => ?_)
  rotate_left
  · have c : tW s = sW 8 := by simpa using c
    rw [if_pos c] at q
    exact d242 hG h (tW_5 h (sW_ok 8 (by omega) (by omega)).2 c) (by omega) (fun μ' f hr => q μ' (f.mono py) hr (fun s' es => wz μ' s' f (rGr_H es)))
  rw [if_neg (of_decide_eq_false c)] at q
  refine f201 hG (b := 9) (by omega) (by omega) h ?_
  try simp (disch := omega) only [h.1.1.all, h.1.2.1, h.2.1, h.2.2.1.2.1, h.2.2.1.2.2.1, h.2.2.2.2.1.1.all, h.cn, h.2.2.2.2.2.1.1, h.2.2.2.2.2.1.2, wr_s, in_nI, clN, ti_z, ti_l, true_and, and_true, kI, zI, rI, kL, zL, rL, kR, zR, nnI, nnL, nnR, iL, iR, lI, lR, exi, exl, exv, eq_self, nI_add, nI_mul, nI_sub, nI_ltI, nI_leI, nI_eq, q0, q1, q2, q3, q4, q5, q6, q10, q100, br_Tr, br_Fa, iI_s, iI_n, bI_q0, bI_q1, or_true, true_or, not_true_eq_false, not_false_eq_true, nI_l, ge64, Nat.lt_irrefl, Nat.add_sub_cancel, Nat.not_lt_zero, lN_0, lN_1e4, lN_1e6, lN_1e3, lN_add, lN_mul, lN_ltI, lN_leI, lN_eqI, lN_i, lcE, lcLe, lcLt, lN_div, q7, q12, q20, q99, q200, q999, q1e4, if_true, if_false, Nat.le_refl, q8, q11, q16, q18, q32, q44, q48, q57, q59, q97, q122, q900]
  refine ax_brc (fun c => ?_) (fun c => ?_)
  rotate_left
  · have c : tW s = sW 9 := by simpa using c
    rw [if_pos c] at q
    exact d245 hG h (tW_5 h (sW_ok 9 (by omega) (by omega)).2 c) (by omega) (fun μ' f hr => q μ' (f.mono py) hr (fun s' es => wz μ' s' f (rTh_H es)))
  rw [if_neg (of_decide_eq_false c)] at q
  refine f201 hG (b := 10) (by omega) (by omega) h ?_
  try simp (disch := omega) only [h.1.1.all, h.1.2.1, h.2.1, h.2.2.1.2.1, h.2.2.1.2.2.1, h.2.2.2.2.1.1.all, h.cn, h.2.2.2.2.2.1.1, h.2.2.2.2.2.1.2, wr_s, in_nI, clN, ti_z, ti_l, true_and, and_true, kI, zI, rI, kL, zL, rL, kR, zR, nnI, nnL, nnR, iL, iR, lI, lR, exi, exl, exv, eq_self, nI_add, nI_mul, nI_sub, nI_ltI, nI_leI, nI_eq, q0, q1, q2, q3, q4, q5, q6, q10, q100, br_Tr, br_Fa, iI_s, iI_n, bI_q0, bI_q1, or_true, true_or, not_true_eq_false, not_false_eq_true, nI_l, ge64, Nat.lt_irrefl, Nat.add_sub_cancel, Nat.not_lt_zero, lN_0, lN_1e4, lN_1e6, lN_1e3, lN_add, lN_mul, lN_ltI, lN_leI, lN_eqI, lN_i, lcE, lcLe, lcLt, lN_div, q7, q12, q20, q99, q200, q999, q1e4, if_true, if_false, Nat.le_refl, q8, q11, q16, q18, q32, q44, q48, q57, q59, q97, q122, q900]
  refine ax_brc (fun c => ?_) (fun c => ?_)
  rotate_left
  · have c : tW s = sW 10 := by simpa using c
    rw [if_pos c] at q
    exact d241 hG h (tW_5 h (sW_ok 10 (by omega) (by omega)).2 c) (fun μ' f hr => q μ' (f.mono py) hr (fun s' es => wz μ' s' f (rCh_H es)))
  rw [if_neg (of_decide_eq_false c)] at q
  refine f201 hG (b := 11) (by omega) (by omega) h ?_
  try simp (disch := omega) only [h.1.1.all, h.1.2.1, h.2.1, h.2.2.1.2.1, h.2.2.1.2.2.1, h.2.2.2.2.1.1.all, h.cn, h.2.2.2.2.2.1.1, h.2.2.2.2.2.1.2, wr_s, in_nI, clN, ti_z, ti_l, true_and, and_true, kI, zI, rI, kL, zL, rL, kR, zR, nnI, nnL, nnR, iL, iR, lI, lR, exi, exl, exv, eq_self, nI_add, nI_mul, nI_sub, nI_ltI, nI_leI, nI_eq, q0, q1, q2, q3, q4, q5, q6, q10, q100, br_Tr, br_Fa, iI_s, iI_n, bI_q0, bI_q1, or_true, true_or, not_true_eq_false, not_false_eq_true, nI_l, ge64, Nat.lt_irrefl, Nat.add_sub_cancel, Nat.not_lt_zero, lN_0, lN_1e4, lN_1e6, lN_1e3, lN_add, lN_mul, lN_ltI, lN_leI, lN_eqI, lN_i, lcE, lcLe, lcLt, lN_div, q7, q12, q20, q99, q200, q999, q1e4, if_true, if_false, Nat.le_refl, q8, q11, q16, q18, q32, q44, q48, q57, q59, q97, q122, q900]
  refine ax_brc (fun c => ?_) (fun c => ?_)
  rotate_left
  · have c : tW s = sW 11 := by simpa using c
    rw [if_pos c] at q
    refine d243 hG h (tW_5 h (sW_ok 11 (by omega) (by omega)).2 c) (by omega) hI hz (fun μ' f hr => q μ' (f.mono (fun b k q => by rcases q with q | q; exact py b k q; exact Or.inr (by omega))) hr (fun s' es k k1 k2 => ?_))
    have e := rHo_H es
    rw [f.I (by omega)]
    exact hz k (by omega) k2
  rw [if_neg (of_decide_eq_false c)] at q
  refine f201 hG (b := 12) (by omega) (by omega) h ?_
  try simp (disch := omega) only [h.1.1.all, h.1.2.1, h.2.1, h.2.2.1.2.1, h.2.2.1.2.2.1, h.2.2.2.2.1.1.all, h.cn, h.2.2.2.2.2.1.1, h.2.2.2.2.2.1.2, wr_s, in_nI, clN, ti_z, ti_l, true_and, and_true, kI, zI, rI, kL, zL, rL, kR, zR, nnI, nnL, nnR, iL, iR, lI, lR, exi, exl, exv, eq_self, nI_add, nI_mul, nI_sub, nI_ltI, nI_leI, nI_eq, q0, q1, q2, q3, q4, q5, q6, q10, q100, br_Tr, br_Fa, iI_s, iI_n, bI_q0, bI_q1, or_true, true_or, not_true_eq_false, not_false_eq_true, nI_l, ge64, Nat.lt_irrefl, Nat.add_sub_cancel, Nat.not_lt_zero, lN_0, lN_1e4, lN_1e6, lN_1e3, lN_add, lN_mul, lN_ltI, lN_leI, lN_eqI, lN_i, lcE, lcLe, lcLt, lN_div, q7, q12, q20, q99, q200, q999, q1e4, if_true, if_false, Nat.le_refl, q8, q11, q16, q18, q32, q44, q48, q57, q59, q97, q122, q900]
  refine ax_brc (fun c => ?_) (fun c => ?_)
  rotate_left
  · have c : tW s = sW 12 := by simpa using c
    rw [if_pos c] at q
    exact d244 hG h (tW_5 h (sW_ok 12 (by omega) (by omega)).2 c) (by omega) (fun μ' f hr => q μ' (f.mono py) hr (fun s' es => wz μ' s' f (rOf_H es)))
  rw [if_neg (of_decide_eq_false c)] at q
  refine d74 h (by omega) (fun μ1 f1 h1 => ?_)
  exact q _ (f1.mono (fun b k q => Or.inl q)) h1 (fun s' es => by cases es)
def MQ2 (μ : ax_M) (N : Nat) (x : Rs PS) : Prop := match x with
  | .inl e => MO μ N e
  | .inr s => isMo μ ∧ gR μ 332 4 = some N ∧ RepM μ N (pL s) ∧ gI μ 332 13 = nI 0
theorem g247_33o {K : ax_M → Prop} (h : MO μ N e) (q : K μ) : (ax_Rw l G ax_h247 (ax_E G ax_h247 (fun x μ' => x = none ∧ K μ')) 33 [(0, ax_r (some 332))] [] 0 0 μ) := by
  refine sg247_33 l G _ 332 _ ?_
  try simp (disch := omega) only [h.1.all, h.2.1, h.2.2.1.all, h.2.2.2.2.1, show ¬ (5 = 2) by omega, show ¬ (5 = 3) by omega, show ¬ (5 = 4) by omega, show ¬ (5 = 1) by omega, show ¬ (1 = 0) by omega, wr_s, in_nI, clN, ti_z, ti_l, true_and, and_true, kI, zI, rI, kL, zL, rL, kR, zR, nnI, nnL, nnR, iL, iR, lI, lR, exi, exl, exv, eq_self, nI_add, nI_mul, nI_sub, nI_ltI, nI_leI, nI_eq, q0, q1, q2, q3, q4, q5, q6, q10, q100, br_Tr, br_Fa, iI_s, iI_n, bI_q0, bI_q1, or_true, true_or, not_true_eq_false, not_false_eq_true, nI_l, ge64, Nat.lt_irrefl, Nat.add_sub_cancel, Nat.not_lt_zero, lN_0, lN_1e4, lN_1e6, lN_1e3, lN_add, lN_mul, lN_ltI, lN_leI, lN_eqI, lN_i, lcE, lcLe, lcLt, lN_div, q7, q12, q20, q99, q200, q999, q1e4, if_true, if_false, Nat.le_refl, q8, q11, q16, q18, q32, q44, q48, q57, q59, q97, q122, q900]
  refine ax_brc (fun _ => d74o h q) (fun _ => ?_)
  refine ax_brc (fun _ => d74o h q) (fun _ => ?_)
  refine ax_brc (fun _ => d74o h q) (fun _ => ?_)
  exact ax_brc (fun _ => d74o h q) (fun _ => q)
theorem g247_2o {K : ax_M → Prop} (h : MO μ N e) (q : K μ) : (ax_Rw l G ax_h247 (ax_E G ax_h247 (fun x μ' => x = none ∧ K μ')) 2 [(0, ax_r (some 332)), (1, ax_i (nI 0))] [] 0 0 μ) := by
  refine sg247_2 l G _ 332 _ _ ?_
  try simp (disch := omega) only [h.1.all, h.2.1, h.2.2.1.all, h.2.2.2.2.1, show ¬ (5 = 2) by omega, show ¬ (5 = 3) by omega, show ¬ (5 = 4) by omega, show ¬ (5 = 1) by omega, show ¬ (1 = 0) by omega, wr_s, in_nI, clN, ti_z, ti_l, true_and, and_true, kI, zI, rI, kL, zL, rL, kR, zR, nnI, nnL, nnR, iL, iR, lI, lR, exi, exl, exv, eq_self, nI_add, nI_mul, nI_sub, nI_ltI, nI_leI, nI_eq, q0, q1, q2, q3, q4, q5, q6, q10, q100, br_Tr, br_Fa, iI_s, iI_n, bI_q0, bI_q1, or_true, true_or, not_true_eq_false, not_false_eq_true, nI_l, ge64, Nat.lt_irrefl, Nat.add_sub_cancel, Nat.not_lt_zero, lN_0, lN_1e4, lN_1e6, lN_1e3, lN_add, lN_mul, lN_ltI, lN_leI, lN_eqI, lN_i, lcE, lcLe, lcLt, lN_div, q7, q12, q20, q99, q200, q999, q1e4, if_true, if_false, Nat.le_refl, q8, q11, q16, q18, q32, q44, q48, q57, q59, q97, q122, q900]
  refine d74o h ?_
  exact g247_33o h q
theorem d247 {K : ax_M → Prop} (hG : GC G) (h : MR μ N n p s) (hI : LI s) (hz : Wz μ N (pL s)) (q : ∀ μ', FK (PZ N) μ μ' → MQ2 μ' N (rLs p n 901 s) → K μ') : ax_CV l G 247 [ax_r (some 332)] μ K := by
  have hb := h.bd
  have loop : ∀ f (μr : ax_M) (sr : PS), MR μr N n p sr → LI sr → Wz μr N (pL sr) → FK (PZ N) μ μr → n - tE sr < f → (∀ μ', FK (PZ N) μ μ' → MQ2 μ' N (rLs p n f sr) → K μ') → (ax_Rw l G ax_h247 (ax_E G ax_h247 (fun x μ' => x = none ∧ K μ')) 2 [(0, ax_r (some 332)), (1, ax_i (nI 1))] [] 0 0 μr) := by
    intro f
    induction f with
    | zero => intro μr sr _ _ _ _ hf; omega
    | succ f ih =>
      intro μr sr hr hI hz fr hf q
      have hbr := hr.bd
      unfold rLs at q
      refine sg247_2 l G _ 332 _ _ ?_
      try simp (disch := omega) only [hr.1.1.all, hr.1.2.1, hr.2.1, hr.2.2.1.2.1, hr.2.2.1.2.2.1, hr.2.2.2.2.1.1.all, hr.cn, hr.2.2.2.2.2.1.1, hr.2.2.2.2.2.1.2, show ¬ (1 = 0) by omega, wr_s, in_nI, clN, ti_z, ti_l, true_and, and_true, kI, zI, rI, kL, zL, rL, kR, zR, nnI, nnL, nnR, iL, iR, lI, lR, exi, exl, exv, eq_self, nI_add, nI_mul, nI_sub, nI_ltI, nI_leI, nI_eq, q0, q1, q2, q3, q4, q5, q6, q10, q100, br_Tr, br_Fa, iI_s, iI_n, bI_q0, bI_q1, or_true, true_or, not_true_eq_false, not_false_eq_true, nI_l, ge64, Nat.lt_irrefl, Nat.add_sub_cancel, Nat.not_lt_zero, lN_0, lN_1e4, lN_1e6, lN_1e3, lN_add, lN_mul, lN_ltI, lN_leI, lN_eqI, lN_i, lcE, lcLe, lcLt, lN_div, q7, q12, q20, q99, q200, q999, q1e4, if_true, if_false, Nat.le_refl, q8, q11, q16, q18, q32, q44, q48, q57, q59, q97, q122, q900]
      refine d246 hG hr hI.2 hz (fun μ1 f1 h1 z1 => ?_)
      have F1 := fr.trans f1
      cases e1 : rLn p n sr with
      | inl e0 =>
        rw [e1] at q h1
        have h1 : MO μ1 N e0 := h1
        try simp (disch := omega) only [h1.1.all, h1.2.1, h1.2.2.1.all, h1.2.2.2.2.1, show ¬ (5 = 2) by omega, show ¬ (5 = 3) by omega, show ¬ (5 = 4) by omega, show ¬ (5 = 1) by omega, show ¬ (1 = 0) by omega, wr_s, in_nI, clN, ti_z, ti_l, true_and, and_true, kI, zI, rI, kL, zL, rL, kR, zR, nnI, nnL, nnR, iL, iR, lI, lR, exi, exl, exv, eq_self, nI_add, nI_mul, nI_sub, nI_ltI, nI_leI, nI_eq, q0, q1, q2, q3, q4, q5, q6, q10, q100, br_Tr, br_Fa, iI_s, iI_n, bI_q0, bI_q1, or_true, true_or, not_true_eq_false, not_false_eq_true, nI_l, ge64, Nat.lt_irrefl, Nat.add_sub_cancel, Nat.not_lt_zero, lN_0, lN_1e4, lN_1e6, lN_1e3, lN_add, lN_mul, lN_ltI, lN_leI, lN_eqI, lN_i, lcE, lcLe, lcLt, lN_div, q7, q12, q20, q99, q200, q999, q1e4, if_true, if_false, Nat.le_refl, q8, q11, q16, q18, q32, q44, q48, q57, q59, q97, q122, q900]
        refine d149o h1 ?_
        try simp (disch := omega) only [wr_s, in_nI, clN, ti_z, ti_l, true_and, and_true, kI, zI, rI, kL, zL, rL, kR, zR, nnI, nnL, nnR, iL, iR, lI, lR, exi, exl, exv, eq_self, nI_add, nI_mul, nI_sub, nI_ltI, nI_leI, nI_eq, q0, q1, q2, q3, q4, q5, q6, q10, q100, br_Tr, br_Fa, iI_s, iI_n, bI_q0, bI_q1, or_true, true_or, not_true_eq_false, not_false_eq_true, nI_l, ge64, Nat.lt_irrefl, Nat.add_sub_cancel, Nat.not_lt_zero, lN_0, lN_1e4, lN_1e6, lN_1e3, lN_add, lN_mul, lN_ltI, lN_leI, lN_eqI, lN_i, lcE, lcLe, lcLt, lN_div, q7, q12, q20, q99, q200, q999, q1e4, if_true, if_false, Nat.le_refl, q8, q11, q16, q18, q32, q44, q48, q57, q59, q97, q122, q900]
        exact g247_2o h1 (q _ F1 h1)
      | inr s1 =>
        rw [e1, bnd_r] at q
        have z1 := z1 s1 e1
        rw [e1] at h1
        have h1 : MR μ1 N n p s1 := h1
        have hI1 := rLn_I hI e1
        have ht := (rLn_t hbr.2.2.2.1.2.1 e1).le
        have hb1 := h1.bd
        try simp (disch := omega) only [h1.1.1.all, h1.1.2.1, h1.2.1, h1.2.2.1.2.1, h1.2.2.1.2.2.1, h1.2.2.2.2.1.1.all, h1.cn, h1.2.2.2.2.2.1.1, h1.2.2.2.2.2.1.2, wr_s, in_nI, clN, ti_z, ti_l, true_and, and_true, kI, zI, rI, kL, zL, rL, kR, zR, nnI, nnL, nnR, iL, iR, lI, lR, exi, exl, exv, eq_self, nI_add, nI_mul, nI_sub, nI_ltI, nI_leI, nI_eq, q0, q1, q2, q3, q4, q5, q6, q10, q100, br_Tr, br_Fa, iI_s, iI_n, bI_q0, bI_q1, or_true, true_or, not_true_eq_false, not_false_eq_true, nI_l, ge64, Nat.lt_irrefl, Nat.add_sub_cancel, Nat.not_lt_zero, lN_0, lN_1e4, lN_1e6, lN_1e3, lN_add, lN_mul, lN_ltI, lN_leI, lN_eqI, lN_i, lcE, lcLe, lcLt, lN_div, q7, q12, q20, q99, q200, q999, q1e4, if_true, if_false, Nat.le_refl, q8, q11, q16, q18, q32, q44, q48, q57, q59, q97, q122, q900]
        refine d149 (k := 3) (c := 59) h1 (Or.inl ⟨rfl, rfl⟩) (fun c3 μ2 f2 h2 => ?_) (fun c3 => ?_)
        · rw [if_neg (by omega), if_pos c3] at q
          have hlt : s1.1.2.1 < s1.1.2.2.1 := h1.2.2.2.1.2.2.2.2.2.2.2 c3
          have h3 := (Tt.nx (p := p) hb1.2.2.2.1.2.1).le
          try simp (disch := omega) only [wr_s, in_nI, clN, ti_z, ti_l, true_and, and_true, kI, zI, rI, kL, zL, rL, kR, zR, nnI, nnL, nnR, iL, iR, lI, lR, exi, exl, exv, eq_self, nI_add, nI_mul, nI_sub, nI_ltI, nI_leI, nI_eq, q0, q1, q2, q3, q4, q5, q6, q10, q100, br_Tr, br_Fa, iI_s, iI_n, bI_q0, bI_q1, or_true, true_or, not_true_eq_false, not_false_eq_true, nI_l, ge64, Nat.lt_irrefl, Nat.add_sub_cancel, Nat.not_lt_zero, lN_0, lN_1e4, lN_1e6, lN_1e3, lN_add, lN_mul, lN_ltI, lN_leI, lN_eqI, lN_i, lcE, lcLe, lcLt, lN_div, q7, q12, q20, q99, q200, q999, q1e4, if_true, if_false, Nat.le_refl, q8, q11, q16, q18, q32, q44, q48, q57, q59, q97, q122, q900]
          refine ih μ2 _ h2 hI1 (fun k k1 k2 => ?_) (F1.trans (f2.mono (fun b k q => Or.inl q))) ?_ q
          · rw [f2.I (by omega)]; exact z1 k k1 k2
          · show n - (adv p n s1.1.2.2.1).2.2.1 < f
            have hf : n - sr.1.2.2.1 < f + 1 := hf
            omega
        · try simp (disch := omega) only [wr_s, in_nI, clN, ti_z, ti_l, true_and, and_true, kI, zI, rI, kL, zL, rL, kR, zR, nnI, nnL, nnR, iL, iR, lI, lR, exi, exl, exv, eq_self, nI_add, nI_mul, nI_sub, nI_ltI, nI_leI, nI_eq, q0, q1, q2, q3, q4, q5, q6, q10, q100, br_Tr, br_Fa, iI_s, iI_n, bI_q0, bI_q1, or_true, true_or, not_true_eq_false, not_false_eq_true, nI_l, ge64, Nat.lt_irrefl, Nat.add_sub_cancel, Nat.not_lt_zero, lN_0, lN_1e4, lN_1e6, lN_1e3, lN_add, lN_mul, lN_ltI, lN_leI, lN_eqI, lN_i, lcE, lcLe, lcLt, lN_div, q7, q12, q20, q99, q200, q999, q1e4, if_true, if_false, Nat.le_refl, q8, q11, q16, q18, q32, q44, q48, q57, q59, q97, q122, q900]
          refine sg247_2 l G _ 332 _ _ ?_
          try simp (disch := omega) only [h1.1.1.all, h1.1.2.1, h1.2.1, h1.2.2.1.2.1, h1.2.2.1.2.2.1, h1.2.2.2.2.1.1.all, h1.cn, h1.2.2.2.2.2.1.1, h1.2.2.2.2.2.1.2, wr_s, in_nI, clN, ti_z, ti_l, true_and, and_true, kI, zI, rI, kL, zL, rL, kR, zR, nnI, nnL, nnR, iL, iR, lI, lR, exi, exl, exv, eq_self, nI_add, nI_mul, nI_sub, nI_ltI, nI_leI, nI_eq, q0, q1, q2, q3, q4, q5, q6, q10, q100, br_Tr, br_Fa, iI_s, iI_n, bI_q0, bI_q1, or_true, true_or, not_true_eq_false, not_false_eq_true, nI_l, ge64, Nat.lt_irrefl, Nat.add_sub_cancel, Nat.not_lt_zero, lN_0, lN_1e4, lN_1e6, lN_1e3, lN_add, lN_mul, lN_ltI, lN_leI, lN_eqI, lN_i, lcE, lcLe, lcLt, lN_div, q7, q12, q20, q99, q200, q999, q1e4, if_true, if_false, Nat.le_refl, q8, q11, q16, q18, q32, q44, q48, q57, q59, q97, q122, q900]
          rw [sort1]
          refine ax_brc (fun c0 => ?_) (fun c0 => ?_)
          · rw [if_pos c0] at q
            unfold rEn isWl at q
            have bad : isWl (pL s1) = false → ax_CV l G 74 [ax_r (some 332), ax_i (nI 6)] μ1 (fun m2 => K m2) := by
              intro hw
              unfold isWl at hw
              rw [hw, if_neg Bool.false_ne_true] at q
              exact d74 h1 (by omega) (fun μ2 f2 h2 => q _ (F1.trans (f2.mono (fun b k q => Or.inl q))) h2)
            unfold isWl at bad
            refine sg247_33 l G _ 332 _ ?_
            try simp (disch := omega) only [h1.1.1.all, h1.1.2.1, h1.2.1, h1.2.2.1.2.1, h1.2.2.1.2.2.1, h1.2.2.2.2.1.1.all, h1.cn, h1.2.2.2.2.2.1.1, h1.2.2.2.2.2.1.2, wr_s, in_nI, clN, ti_z, ti_l, true_and, and_true, kI, zI, rI, kL, zL, rL, kR, zR, nnI, nnL, nnR, iL, iR, lI, lR, exi, exl, exv, eq_self, nI_add, nI_mul, nI_sub, nI_ltI, nI_leI, nI_eq, q0, q1, q2, q3, q4, q5, q6, q10, q100, br_Tr, br_Fa, iI_s, iI_n, bI_q0, bI_q1, or_true, true_or, not_true_eq_false, not_false_eq_true, nI_l, ge64, Nat.lt_irrefl, Nat.add_sub_cancel, Nat.not_lt_zero, lN_0, lN_1e4, lN_1e6, lN_1e3, lN_add, lN_mul, lN_ltI, lN_leI, lN_eqI, lN_i, lcE, lcLe, lcLt, lN_div, q7, q12, q20, q99, q200, q999, q1e4, if_true, if_false, Nat.le_refl, q8, q11, q16, q18, q32, q44, q48, q57, q59, q97, q122, q900]
            refine ax_brc (fun d0 => bad (by simp [d0])) (fun d0 => ?_)
            refine ax_brc (fun d1 => bad (by simp [d1])) (fun d1 => ?_)
            refine ax_brc (fun d2 => bad (by simp [d2])) (fun d2 => ?_)
            refine ax_brc (fun d3 => bad (by simp [d3])) (fun d3 => ?_)
            rw [if_pos (by simp; omega)] at q
            exact q _ F1 ⟨h1.1.1, h1.2.1.1, h1.2.2.2.2.1, h1.2.1.2⟩
          · rw [if_neg c0, if_neg c3] at q
            refine d74 h1 (by omega) (fun μ2 f2 h2 => ?_)
            exact g247_33o h2 (q _ (F1.trans (f2.mono (fun b k q => Or.inl q))) h2)
  refine ax_Ct.of (by decide) (Nat.le_of_ble_eq_true rfl) (sg247_0 l G _ 332 _ ?_)
  exact loop 901 μ s h hI hz (FK.refl _ _) (by omega) q
end V7
