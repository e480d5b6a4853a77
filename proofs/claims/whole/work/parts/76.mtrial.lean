/-! the model: changes that come and go, a maker's trials -/
theorem nCN (μ : ax_M) (k z : Nat) : mN (nC μ k z) = mN μ + 1 := rfl
theorem nCK {μ : ax_M} {k z b : Nat} (h : b ≠ mN μ) : mK (nC μ k z) b = mK μ b := by rw [ax_mK_nC, if_neg h]
theorem nCZ {μ : ax_M} {k z b : Nat} (h : b ≠ mN μ) : mZ (nC μ k z) b = mZ μ b := by rw [ax_mZ_nC, if_neg h]
theorem nCI {μ : ax_M} {k z b j : Nat} (h : b ≠ mN μ) : gI (nC μ k z) b j = gI μ b j := by rw [ax_gI_nC, if_neg h]
theorem nCL {μ : ax_M} {k z b j : Nat} (h : b ≠ mN μ) : gL (nC μ k z) b j = gL μ b j := by rw [ax_gL_nC, if_neg h]
theorem nCR {μ : ax_M} {k z b j : Nat} (h : b ≠ mN μ) : gR (nC μ k z) b j = gR μ b j := by rw [ax_gR_nC, if_neg h]
theorem nCk (μ : ax_M) (k z : Nat) : mK (nC μ k z) (mN μ) = k := by rw [ax_mK_nC, if_pos rfl]
theorem nCz (μ : ax_M) (k z : Nat) : mZ (nC μ k z) (mN μ) = z := by rw [ax_mZ_nC, if_pos rfl]
/-- alike below n -/
def Ag (n : Nat) (μ μ' : ax_M) : Prop := ∀ b, b < n → μ'.2.1 b = μ.2.1 b ∧ ∀ k, gI μ' b k = gI μ b k ∧ gL μ' b k = gL μ b k ∧ gR μ' b k = gR μ b k
theorem Ag.K {n b : Nat} {μ μ' : ax_M} (h : Ag n μ μ') (hb : b < n) : mK μ' b = mK μ b := by unfold mK; rw [(h b hb).1]
theorem Ag.Z {n b : Nat} {μ μ' : ax_M} (h : Ag n μ μ') (hb : b < n) : mZ μ' b = mZ μ b := by unfold mZ; rw [(h b hb).1]
theorem Ag.I {n b k : Nat} {μ μ' : ax_M} (h : Ag n μ μ') (hb : b < n) : gI μ' b k = gI μ b k := ((h b hb).2 k).1
theorem Ag.L {n b k : Nat} {μ μ' : ax_M} (h : Ag n μ μ') (hb : b < n) : gL μ' b k = gL μ b k := ((h b hb).2 k).2.1
theorem Ag.R {n b k : Nat} {μ μ' : ax_M} (h : Ag n μ μ') (hb : b < n) : gR μ' b k = gR μ b k := ((h b hb).2 k).2.2
theorem Ag.new (μ : ax_M) (k z : Nat) : Ag (mN μ) μ (nC μ k z) := fun b hb => ⟨by show (if b = mN μ then _ else _) = _; rw [if_neg (by omega)], fun j => ⟨nCI (by omega), nCL (by omega), nCR (by omega)⟩⟩
theorem isML.ag {n N : Nat} {μ μ' : ax_M} (h : isML μ N) (a : Ag n μ μ') (hn : N + 18 ≤ n) : isML μ' N := by
  unfold isML at h ⊢
  simp (disch := omega) only [a.K, a.Z, a.R]
  exact h
theorem isMo.ag {n : Nat} {μ μ' : ax_M} (h : isMo μ) (a : Ag n μ μ') (hn : 341 ≤ n) : isMo μ' := by
  unfold isMo at h ⊢
  simp (disch := omega) only [a.K, a.Z, a.R]
  exact h
theorem RepM.ag {n N : Nat} {μ μ' : ax_M} {a : Ld} (hl : RepM μ N a) (h : Ag n μ μ') (hn : N + 18 ≤ n) : RepM μ' N a := by
  obtain ⟨h0, h1, h2, h3, h4, h5⟩ := hl
  refine ⟨h0.ag h hn, fun k hk => ?_, fun t ht f hf => ?_, fun k hk => ⟨fun f hf => ?_, fun hh => ?_⟩, fun k hk => ⟨?_, ?_, fun g hg => ?_⟩, fun o ho => ⟨?_, ?_, ?_⟩⟩
  · rw [h.I (by omega)]; exact h1 k hk
  · rw [h.I (by omega)]; exact h2 t ht f hf
  · rw [h.I (by omega)]; exact (h3 k hk).1 f hf
  · rw [h.I (by omega)]; exact (h3 k hk).2 hh
  · rw [h.I (by omega)]; exact (h4 k hk).1
  · rw [h.I (by omega)]; exact (h4 k hk).2.1
  · rw [h.I (by omega)]; exact (h4 k hk).2.2 g hg
  · rw [h.I (by omega)]; exact (h5 o ho).1
  · rw [h.I (by omega)]; exact (h5 o ho).2.1
  · rw [h.I (by omega)]; exact (h5 o ho).2.2
theorem MB.ag {n N : Nat} {μ μ' : ax_M} {a : Ld} (hl : MB μ N a) (h : Ag n μ μ') (hn : N + 18 ≤ n) : MB μ' N a := by
  have hb := hl.bd
  refine ⟨⟨⟨hl.1.1.1, hl.1.1.2.1.ag h (by omega), by rw [h.R (by omega)]; exact hl.1.1.2.2.1, hl.1.1.2.2.2.ag h hn⟩, fun t m ht hm => ?_⟩, fun x y m hh hg hm h0 => ?_⟩
  · rw [h.I (by omega), h.I (by omega), h.I (by omega), h.I (by omega)]; exact hl.1.2 t m ht hm
  · rw [h.I (by omega), h.I (by omega)]; exact hl.2 x y m hh hg hm h0
theorem OutM.C {μ μ1 : ax_M} {k z : Nat} (h : OutM μ μ1) (hn : 341 ≤ mN μ1) : OutM μ (nC μ1 k z) :=
  ⟨Nat.le_succ_of_le h.1, fun b hb => ⟨((Ag.new μ1 k z) b (by omega)).1.trans (h.2 b hb).1, fun j => ⟨(nCI (by omega)).trans ((h.2 b hb).2 j).1, (nCL (by omega)).trans ((h.2 b hb).2 j).2.1, (nCR (by omega)).trans ((h.2 b hb).2 j).2.2⟩⟩⟩
theorem Mx.mk2 {μ μ1 : ax_M} {st : St} {N : Nat} {a : Ld} (h : Mx μ st) (hm : mN μ ≤ mN μ1) (e : ∀ b, b = 332 ∨ b = 333 → ∀ k, gI μ1 b k = gI μ b k) (hN : N + 18 ≤ mN μ1) (hM : MB μ1 N a) : Mx μ1 (sLd st a) := by
  refine ⟨hM.1.1.2.1, ?_, ⟨h.2.2.1.1, Nat.le_trans h.2.2.1.2 hm⟩, fun i hi => ?_, Or.inr ⟨a, N, rfl, hN, hM⟩⟩
  · rw [e 332 (Or.inl rfl), e 332 (Or.inl rfl), e 332 (Or.inl rfl), e 332 (Or.inl rfl)]; exact h.2.1
  · rw [e 333 (Or.inr rfl)]; exact h.2.2.2.1 i hi
theorem sLd_same {st : St} {a : Ld} (h : lan st = some a) : sLd st a = st := by
  obtain ⟨a1, a2, a3, a4, a5, a6⟩ := st
  have h : a6 = some a := h
  rw [h]; rfl
theorem inL_N (x : Int32) (n : Nat) : inL x n = (inN x n && !decide (x = nI 0)) := by
  have h1 : (nI 1).toInt = 1 := by decide +kernel
  have h0 : (nI 0).toInt = 0 := by decide +kernel
  have h00 : (0 : Int32).toInt = 0 := by decide
  unfold inL inN
  rw [show decide (x < nI n) = decide (x < nI n) from rfl]
  have e1 : (x < nI 1) = (x.toInt < 1) := by rw [Int32.lt_iff_toInt_lt, h1]
  have e2 : (x < 0) = (x.toInt < 0) := by rw [Int32.lt_iff_toInt_lt, h00]
  have e3 : (x = nI 0) = (x.toInt = 0) := by rw [← Int32.toInt_inj, h0]
  simp only [e1, e2, e3]
  by_cases a : x.toInt < 1 <;> by_cases b : x.toInt < 0 <;> by_cases c : x.toInt = 0 <;> simp [a, b, c] <;> omega
def PCm (N n : Nat) (b k : Nat) : Prop := (334 ≤ b ∧ b < 340) ∨ ((N + 5 ≤ b ∧ b < N + 9) ∧ k = n) ∨ (b = N ∧ k = 3)
theorem RepM.bk {N : Nat} {μ μ1 : ax_M} {a : Ld} (h : RepM μ N a) (f : Fr (PCm N (nCh a)) μ μ1) : RepM (sI μ1 N 3 (nI (nCh a))) N a := by
  have hN := h.1.1
  have g : Fr (PCm N (nCh a)) μ (sI μ1 N 3 (nI (nCh a))) := f.put (Or.inr (Or.inr ⟨rfl, rfl⟩))
  obtain ⟨h0, h1, h2, h3, h4, h5⟩ := h
  refine ⟨h0.fr g, fun k hk => ?_, fun t ht f' hf => ?_, fun k hk => ⟨fun f' hf => ?_, fun hh => ?_⟩, fun k hk => ⟨?_, ?_, fun y hy => ?_⟩, fun o ho => ⟨?_, ?_, ?_⟩⟩
  · by_cases e : k = 3
    · subst e; exact iI_s _ _ _ _
    · rw [g.I (by unfold PCm; omega)]; exact h1 k hk
  · rw [g.I (by unfold PCm; omega)]; exact h2 t ht f' hf
  · rw [g.I (by unfold PCm; omega)]; exact (h3 k hk).1 f' hf
  · rw [g.I (by unfold PCm; omega)]; exact (h3 k hk).2 hh
  · rw [g.I (by unfold PCm; omega)]; exact (h4 k hk).1
  · rw [g.I (by unfold PCm; omega)]; exact (h4 k hk).2.1
  · rw [g.I (by unfold PCm; omega)]; exact (h4 k hk).2.2 y hy
  · rw [g.I (by unfold PCm; omega)]; exact (h5 o ho).1
  · rw [g.I (by unfold PCm; omega)]; exact (h5 o ho).2.1
  · rw [g.I (by unfold PCm; omega)]; exact (h5 o ho).2.2
theorem RepM.dp {N : Nat} {μ : ax_M} {a : Ld} (hl : RepM μ N a) : RepM (sI μ N 3 (nI (nCh a - 1))) N (dpc a) := by
  have hN := hl.1.1
  have f : Fr (fun b k => b = N ∧ k = 3) μ (sI μ N 3 (nI (nCh a - 1))) := (Fr.refl _ _).put ⟨rfl, rfl⟩
  obtain ⟨h0, h1, h2, h3, h4, h5⟩ := hl
  refine ⟨h0.fr f, fun k hk => ?_, fun t ht f' hf => ?_, fun k hk => ⟨fun f' hf => ?_, fun hh => ?_⟩, fun k hk => ⟨?_, ?_, fun g hg => ?_⟩, fun o ho => ⟨?_, ?_, ?_⟩⟩
  · by_cases e : k = 3
    · subst e; exact iI_s _ _ _ _
    · rw [f.I (by omega), h1 k hk]
      show _ = nI (if k = 3 then _ else a.1 k)
      rw [if_neg e]
  · rw [f.I (by omega)]; exact h2 t ht f' hf
  · have hk : k < nCh a - 1 := hk
    rw [f.I (by omega)]; exact (h3 k (by omega)).1 f' hf
  · have hk : k < nCh a - 1 := hk
    rw [f.I (by omega)]; exact (h3 k (by omega)).2 hh
  · rw [f.I (by omega)]; exact (h4 k hk).1
  · rw [f.I (by omega)]; exact (h4 k hk).2.1
  · rw [f.I (by omega)]; exact (h4 k hk).2.2 g hg
  · rw [f.I (by omega)]; exact (h5 o ho).1
  · rw [f.I (by omega)]; exact (h5 o ho).2.1
  · rw [f.I (by omega)]; exact (h5 o ho).2.2
section F8
variable {l : Launch} {G : ax_G} {μ : ax_M} {st : St} {N : Nat} {a : Ld}
theorem d51' {v : Int32} {K : Int32 → ax_M → Prop} (hx : Mx μ st) (q : ∀ μ', OutM μ μ' → Mx μ' (sT st 0) → K v μ') : ax_CI l G 51 [ax_r (some 332), ax_i v] μ K := by
  refine ax_Ct.of (by decide) (Nat.le_of_ble_eq_true rfl) (sg51_0 l G _ 332 _ _ ?_)
  try simp (disch := omega) only [hx.1.all, wr_s, in_nI, clN, ti_z, ti_l, true_and, and_true, kI, zI, rI, kL, zL, rL, kR, zR, nnI, nnL, nnR, iL, iR, lI, lR, exi, exl, exv, eq_self, nI_add, nI_mul, nI_sub, nI_ltI, nI_leI, nI_eq, q0, q1, q2, q3, q4, q5, q6, q10, q100, br_Tr, br_Fa, iI_s, iI_n, bI_q0, bI_q1, or_true, true_or, not_true_eq_false, not_false_eq_true, nI_l, ge64, Nat.lt_irrefl, Nat.add_sub_cancel, Nat.not_lt_zero, lN_0, lN_1e4, lN_1e6, lN_1e3, lN_add, lN_mul, lN_ltI, lN_leI, lN_eqI, lN_i, lcE, lcLe, lcLt, lN_div, q7, q12, q20, q99, q200, q999, q1e4, if_true, if_false, Nat.le_refl]
  exact q _ (((OutM.refl _).I (by omega)).I (by omega)) (hx.tr (by omega))
theorem d68' {t : Nat} {K : Int32 → ax_M → Prop} (hx : Mx μ st) (ht : t ≠ 4) (q : ∀ μ', OutM μ μ' → Mx μ' (sT st t) → K (-nI 1) μ') : ax_CI l G 68 [ax_r (some 332), ax_i (nI t)] μ K := by
  refine ax_Ct.of (by decide) (Nat.le_of_ble_eq_true rfl) (sg68_0 l G _ 332 _ _ ?_)
  try simp (disch := omega) only [hx.1.all, wr_s, in_nI, clN, ti_z, ti_l, true_and, and_true, kI, zI, rI, kL, zL, rL, kR, zR, nnI, nnL, nnR, iL, iR, lI, lR, exi, exl, exv, eq_self, nI_add, nI_mul, nI_sub, nI_ltI, nI_leI, nI_eq, q0, q1, q2, q3, q4, q5, q6, q10, q100, br_Tr, br_Fa, iI_s, iI_n, bI_q0, bI_q1, or_true, true_or, not_true_eq_false, not_false_eq_true, nI_l, ge64, Nat.lt_irrefl, Nat.add_sub_cancel, Nat.not_lt_zero, lN_0, lN_1e4, lN_1e6, lN_1e3, lN_add, lN_mul, lN_ltI, lN_leI, lN_eqI, lN_i, lcE, lcLe, lcLt, lN_div, q7, q12, q20, q99, q200, q999, q1e4, if_true, if_false, Nat.le_refl]
  exact q _ (((OutM.refl _).I (by omega)).I (by omega)) (hx.tr ht)
theorem d56 {w : Nat} {K : Int32 → ax_M → Prop} (hw : w < 3) (q : K (nI (cw w)) μ) : ax_CI l G 56 [ax_i (nI w)] μ K := by
  unfold cw at q
  refine ax_Ct.of (by decide) (Nat.le_of_ble_eq_true rfl) (sg56_0 l G _ _ _ ?_)
  try simp (disch := omega) only [wr_s, in_nI, clN, ti_z, ti_l, true_and, and_true, kI, zI, rI, kL, zL, rL, kR, zR, nnI, nnL, nnR, iL, iR, lI, lR, exi, exl, exv, eq_self, nI_add, nI_mul, nI_sub, nI_ltI, nI_leI, nI_eq, q0, q1, q2, q3, q4, q5, q6, q10, q100, br_Tr, br_Fa, iI_s, iI_n, bI_q0, bI_q1, or_true, true_or, not_true_eq_false, not_false_eq_true, nI_l, ge64, Nat.lt_irrefl, Nat.add_sub_cancel, Nat.not_lt_zero, lN_0, lN_1e4, lN_1e6, lN_1e3, lN_add, lN_mul, lN_ltI, lN_leI, lN_eqI, lN_i, lcE, lcLe, lcLt, lN_div, q7, q12, q20, q99, q200, q999, q1e4, if_true, if_false, Nat.le_refl]
  refine ax_brc (fun h => by rw [if_pos h] at q; exact q) (fun h => ?_)
  rw [if_neg h] at q
  refine ax_brc (fun h => by rw [if_pos h] at q; exact q) (fun h => by rw [if_neg h] at q; exact q)
theorem d117 {h t m : Nat} {K : Int32 → ax_M → Prop} (hc : MB μ N a) (hh : h < nHo a) (ht : t < nTh a) (hm : m < nMo a) (q : K (nI (pcO a h t m)) μ) : ax_CI l G 117 [ax_r (some 332), ax_i (nI h), ax_i (nI t), ax_i (nI m)] μ K := by
  have hb := hc.bd
  have ha := hc.1.1.1
  rw [← pcG_sum ha hh ht] at q
  refine ax_Ct.of (by decide) (Nat.le_of_ble_eq_true rfl) (sg117_0 l G _ 332 _ _ _ _ ?_)
  refine up_to (P := fun g => (ax_Rw l G ax_h117 (ax_E G ax_h117 (fun x μ' => ∃ v : Int32, x = some (ax_i v) ∧ K v μ')) 6 [(0, ax_r (some 332)), (1, ax_i (nI h)), (2, ax_i (nI t)), (3, ax_i (nI m)), (4, ax_i (nI (sumN (pcG a h t m) g))), (5, ax_i (nI g))] [] 0 0 μ)) (nGr a) ?_ (fun g hg ih => ?_) 0 (Nat.zero_le _)
  · refine sg117_6 l G _ 332 _ _ _ _ _ _ ?_
    try simp (disch := omega) only [hc.1.1.2.1.all, hc.1.1.2.2.1, hc.1.1.2.2.2.1.all, hc.1.1.2.2.2.all, hc.1.2, hc.2, wr_s, in_nI, clN, ti_z, ti_l, true_and, and_true, kI, zI, rI, kL, zL, rL, kR, zR, nnI, nnL, nnR, iL, iR, lI, lR, exi, exl, exv, eq_self, nI_add, nI_mul, nI_sub, nI_ltI, nI_leI, nI_eq, q0, q1, q2, q3, q4, q5, q6, q10, q100, br_Tr, br_Fa, iI_s, iI_n, bI_q0, bI_q1, or_true, true_or, not_true_eq_false, not_false_eq_true, nI_l, ge64, Nat.lt_irrefl, Nat.add_sub_cancel, Nat.not_lt_zero, lN_0, lN_1e4, lN_1e6, lN_1e3, lN_add, lN_mul, lN_ltI, lN_leI, lN_eqI, lN_i, lcE, lcLe, lcLt, lN_div, q7, q12, q20, q99, q200, q999, q1e4, if_true, if_false, Nat.le_refl]
    exact q
  · have hbi := (buy_in ha hh (show g < 4 by omega) m).1
    rw [sumN_s] at ih
    refine sg117_6 l G _ 332 _ _ _ _ _ _ ?_
    try simp (disch := omega) only [hc.1.1.2.1.all, hc.1.1.2.2.1, hc.1.1.2.2.2.1.all, hc.1.1.2.2.2.all, hc.1.2, hc.2, hg, wr_s, in_nI, clN, ti_z, ti_l, true_and, and_true, kI, zI, rI, kL, zL, rL, kR, zR, nnI, nnL, nnR, iL, iR, lI, lR, exi, exl, exv, eq_self, nI_add, nI_mul, nI_sub, nI_ltI, nI_leI, nI_eq, q0, q1, q2, q3, q4, q5, q6, q10, q100, br_Tr, br_Fa, iI_s, iI_n, bI_q0, bI_q1, or_true, true_or, not_true_eq_false, not_false_eq_true, nI_l, ge64, Nat.lt_irrefl, Nat.add_sub_cancel, Nat.not_lt_zero, lN_0, lN_1e4, lN_1e6, lN_1e3, lN_add, lN_mul, lN_ltI, lN_leI, lN_eqI, lN_i, lcE, lcLe, lcLt, lN_div, q7, q12, q20, q99, q200, q999, q1e4, if_true, if_false, Nat.le_refl]
    refine d65 hc.1.1 hh hg ?_
    try simp (disch := omega) only [hc.1.1.2.1.all, hc.1.1.2.2.1, hc.1.1.2.2.2.1.all, hc.1.1.2.2.2.all, hc.1.2, hc.2, wr_s, in_nI, clN, ti_z, ti_l, true_and, and_true, kI, zI, rI, kL, zL, rL, kR, zR, nnI, nnL, nnR, iL, iR, lI, lR, exi, exl, exv, eq_self, nI_add, nI_mul, nI_sub, nI_ltI, nI_leI, nI_eq, q0, q1, q2, q3, q4, q5, q6, q10, q100, br_Tr, br_Fa, iI_s, iI_n, bI_q0, bI_q1, or_true, true_or, not_true_eq_false, not_false_eq_true, nI_l, ge64, Nat.lt_irrefl, Nat.add_sub_cancel, Nat.not_lt_zero, lN_0, lN_1e4, lN_1e6, lN_1e3, lN_add, lN_mul, lN_ltI, lN_leI, lN_eqI, lN_i, lcE, lcLe, lcLt, lN_div, q7, q12, q20, q99, q200, q999, q1e4, if_true, if_false, Nat.le_refl]
    refine ax_brc (fun h1 => ?_) (fun h1 => ?_)
    · have h2 : hW a h g = 0 := by have := of_decide_eq_false h1; omega
      rw [show pcG a h t m g = 0 by unfold pcG; rw [buy_w0 h2]; exact if_neg (fun e => by cases e)] at ih
      exact ih
    · have h2 : 0 < hW a h g := Nat.pos_of_ne_zero (by simpa using h1)
      refine d72 ?_
      try simp (disch := omega) only [hc.1.1.2.1.all, hc.1.1.2.2.1, hc.1.1.2.2.2.1.all, hc.1.1.2.2.2.all, hc.1.2, hc.2, wr_s, in_nI, clN, ti_z, ti_l, true_and, and_true, kI, zI, rI, kL, zL, rL, kR, zR, nnI, nnL, nnR, iL, iR, lI, lR, exi, exl, exv, eq_self, nI_add, nI_mul, nI_sub, nI_ltI, nI_leI, nI_eq, q0, q1, q2, q3, q4, q5, q6, q10, q100, br_Tr, br_Fa, iI_s, iI_n, bI_q0, bI_q1, or_true, true_or, not_true_eq_false, not_false_eq_true, nI_l, ge64, Nat.lt_irrefl, Nat.add_sub_cancel, Nat.not_lt_zero, lN_0, lN_1e4, lN_1e6, lN_1e3, lN_add, lN_mul, lN_ltI, lN_leI, lN_eqI, lN_i, lcE, lcLe, lcLt, lN_div, q7, q12, q20, q99, q200, q999, q1e4, if_true, if_false, Nat.le_refl]
      rw [enc_eq (fun t' e => by have := hbi t' e; omega) (by omega)]
      refine ax_brc (fun h3 => ?_) (fun h3 => ?_)
      · rw [show pcG a h t m g = (buy a h g m).2 from if_pos h3] at ih
        refine d72 ?_
        try simp (disch := omega) only [hc.1.1.2.1.all, hc.1.1.2.2.1, hc.1.1.2.2.2.1.all, hc.1.1.2.2.2.all, hc.1.2, hc.2, wr_s, in_nI, clN, ti_z, ti_l, true_and, and_true, kI, zI, rI, kL, zL, rL, kR, zR, nnI, nnL, nnR, iL, iR, lI, lR, exi, exl, exv, eq_self, nI_add, nI_mul, nI_sub, nI_ltI, nI_leI, nI_eq, q0, q1, q2, q3, q4, q5, q6, q10, q100, br_Tr, br_Fa, iI_s, iI_n, bI_q0, bI_q1, or_true, true_or, not_true_eq_false, not_false_eq_true, nI_l, ge64, Nat.lt_irrefl, Nat.add_sub_cancel, Nat.not_lt_zero, lN_0, lN_1e4, lN_1e6, lN_1e3, lN_add, lN_mul, lN_ltI, lN_leI, lN_eqI, lN_i, lcE, lcLe, lcLt, lN_div, q7, q12, q20, q99, q200, q999, q1e4, if_true, if_false, Nat.le_refl]
        exact ih
      · rw [show pcG a h t m g = 0 from if_neg h3] at ih
        exact ih
theorem d118 {x y z : Int32} {K : Int32 → ax_M → Prop} (hx : Mx μ st) (q : K (nI (wnt st x y z true)) μ) : ax_CI l G 118 [ax_r (some 332), ax_i x, ax_i y, ax_i z] μ K := by
  have hb := hx.bd
  unfold wnt at q
  rw [inL_N] at q
  refine ax_Ct.of (by decide) (Nat.le_of_ble_eq_true rfl) (sg118_0 l G _ 332 _ _ _ _ ?_)
  try simp (disch := omega) only [hx.1.all, wr_s, in_nI, clN, ti_z, ti_l, true_and, and_true, kI, zI, rI, kL, zL, rL, kR, zR, nnI, nnL, nnR, iL, iR, lI, lR, exi, exl, exv, eq_self, nI_add, nI_mul, nI_sub, nI_ltI, nI_leI, nI_eq, q0, q1, q2, q3, q4, q5, q6, q10, q100, br_Tr, br_Fa, iI_s, iI_n, bI_q0, bI_q1, or_true, true_or, not_true_eq_false, not_false_eq_true, nI_l, ge64, Nat.lt_irrefl, Nat.add_sub_cancel, Nat.not_lt_zero, lN_0, lN_1e4, lN_1e6, lN_1e3, lN_add, lN_mul, lN_ltI, lN_leI, lN_eqI, lN_i, lcE, lcLe, lcLt, lN_div, q7, q12, q20, q99, q200, q999, q1e4, if_true, if_false, Nat.le_refl]
  refine d64 hx ?_
  try simp (disch := omega) only [hx.1.all, wr_s, in_nI, clN, ti_z, ti_l, true_and, and_true, kI, zI, rI, kL, zL, rL, kR, zR, nnI, nnL, nnR, iL, iR, lI, lR, exi, exl, exv, eq_self, nI_add, nI_mul, nI_sub, nI_ltI, nI_leI, nI_eq, q0, q1, q2, q3, q4, q5, q6, q10, q100, br_Tr, br_Fa, iI_s, iI_n, bI_q0, bI_q1, or_true, true_or, not_true_eq_false, not_false_eq_true, nI_l, ge64, Nat.lt_irrefl, Nat.add_sub_cancel, Nat.not_lt_zero, lN_0, lN_1e4, lN_1e6, lN_1e3, lN_add, lN_mul, lN_ltI, lN_leI, lN_eqI, lN_i, lcE, lcLe, lcLt, lN_div, q7, q12, q20, q99, q200, q999, q1e4, if_true, if_false, Nat.le_refl]
  cases h1 : inN x (cn st 2)
  · simp only [h1, Bool.and_false, Bool.false_and, Bool.and_true, Bool.true_and, cond_false, cond_true] at q
    exact ax_brt rfl q
  simp only [h1, Bool.and_false, Bool.false_and, Bool.and_true, Bool.true_and, cond_false, cond_true] at q
  refine ax_brf (by decide) ?_
  refine d62 hx ?_
  try simp (disch := omega) only [hx.1.all, wr_s, in_nI, clN, ti_z, ti_l, true_and, and_true, kI, zI, rI, kL, zL, rL, kR, zR, nnI, nnL, nnR, iL, iR, lI, lR, exi, exl, exv, eq_self, nI_add, nI_mul, nI_sub, nI_ltI, nI_leI, nI_eq, q0, q1, q2, q3, q4, q5, q6, q10, q100, br_Tr, br_Fa, iI_s, iI_n, bI_q0, bI_q1, or_true, true_or, not_true_eq_false, not_false_eq_true, nI_l, ge64, Nat.lt_irrefl, Nat.add_sub_cancel, Nat.not_lt_zero, lN_0, lN_1e4, lN_1e6, lN_1e3, lN_add, lN_mul, lN_ltI, lN_leI, lN_eqI, lN_i, lcE, lcLe, lcLt, lN_div, q7, q12, q20, q99, q200, q999, q1e4, if_true, if_false, Nat.le_refl]
  cases h2 : inN y (cn st 0)
  · simp only [h2, Bool.and_false, Bool.false_and, Bool.and_true, Bool.true_and, cond_false, cond_true] at q
    exact ax_brt rfl q
  simp only [h2, Bool.and_false, Bool.false_and, Bool.and_true, Bool.true_and, cond_false, cond_true] at q
  refine ax_brf (by decide) ?_
  refine ax_brc (fun h3 => ?_) (fun h3 => ?_)
  · rw [decide_eq_true h3] at q
    exact q
  rw [decide_eq_false h3] at q
  obtain ⟨t, hh1, rfl⟩ := inN_t (by omega) h1
  obtain ⟨m, hh2, rfl⟩ := inN_t (by omega) h2
  obtain ⟨N, hM, -, -, he⟩ := hx.mb hh1
  have hbd := hM.bd
  simp only [Bool.not_false, Bool.true_and, cl_nI (show t < 2 ^ 31 by omega), cl_nI (show m < 2 ^ 31 by omega)] at q
  refine d50 ?_
  try simp (disch := omega) only [hM.1.1.2.1.all, hM.1.1.2.2.1, hM.1.1.2.2.2.1.all, hM.1.1.2.2.2.all, hM.1.2, hM.2, wr_s, in_nI, clN, ti_z, ti_l, true_and, and_true, kI, zI, rI, kL, zL, rL, kR, zR, nnI, nnL, nnR, iL, iR, lI, lR, exi, exl, exv, eq_self, nI_add, nI_mul, nI_sub, nI_ltI, nI_leI, nI_eq, q0, q1, q2, q3, q4, q5, q6, q10, q100, br_Tr, br_Fa, iI_s, iI_n, bI_q0, bI_q1, or_true, true_or, not_true_eq_false, not_false_eq_true, nI_l, ge64, Nat.lt_irrefl, Nat.add_sub_cancel, Nat.not_lt_zero, lN_0, lN_1e4, lN_1e6, lN_1e3, lN_add, lN_mul, lN_ltI, lN_leI, lN_eqI, lN_i, lcE, lcLe, lcLt, lN_div, q7, q12, q20, q99, q200, q999, q1e4, if_true, if_false, Nat.le_refl]
  refine ax_brc (fun h4 => ?_) (fun h4 => ?_)
  · rw [h4] at q
    exact q
  rw [show Tr (ldo st) t m = true by simpa using h4] at q
  refine d57k ?_
  try simp (disch := omega) only [hM.1.1.2.1.all, hM.1.1.2.2.1, hM.1.1.2.2.2.1.all, hM.1.1.2.2.2.all, hM.1.2, hM.2, wr_s, in_nI, clN, ti_z, ti_l, true_and, and_true, kI, zI, rI, kL, zL, rL, kR, zR, nnI, nnL, nnR, iL, iR, lI, lR, exi, exl, exv, eq_self, nI_add, nI_mul, nI_sub, nI_ltI, nI_leI, nI_eq, q0, q1, q2, q3, q4, q5, q6, q10, q100, br_Tr, br_Fa, iI_s, iI_n, bI_q0, bI_q1, or_true, true_or, not_true_eq_false, not_false_eq_true, nI_l, ge64, Nat.lt_irrefl, Nat.add_sub_cancel, Nat.not_lt_zero, lN_0, lN_1e4, lN_1e6, lN_1e3, lN_add, lN_mul, lN_ltI, lN_leI, lN_eqI, lN_i, lcE, lcLe, lcLt, lN_div, q7, q12, q20, q99, q200, q999, q1e4, if_true, if_false, Nat.le_refl]
  cases h5 : inK z 99
  · rw [h5] at q
    exact ax_brt rfl q
  rw [h5, he.2.2.2.1] at q
  refine ax_brf (by decide) ?_
  refine ax_brc (fun h6 => ?_) (fun h6 => ?_)
  · simp only [cond_true, if_neg (show ¬ nCh (ldo st) < 20 by omega)] at q
    exact q
  · simp only [cond_true, if_pos (show nCh (ldo st) < 20 by omega)] at q
    exact q
theorem d214 {t m h b : Nat} {v : Int32} {K : ax_M → Prop} (hc : MB μ N a) (ht : t < nTh a) (h1 : 1 ≤ m) (hm : m < nMo a) (hh : h ≤ 6) (hb9 : h ≤ 4 → 1 ≤ b ∧ b ≤ 999) (hn : nCh a < 20) (hv : h ≤ 4 → v = nI b) (q : ∀ μ', Fr (PCm N (nCh a)) μ μ' → MB μ' N (adc a t m h b) → K μ') : ax_CV l G 214 [ax_r (some 332), ax_i (nI t), ax_i (nI m), ax_i (nI h), ax_i v] μ K := by
  have hb := hc.bd
  have ha := hc.1.1.1
  refine ax_Ct.of (by decide) (Nat.le_of_ble_eq_true rfl) (sg214_0 l G _ 332 _ _ _ _ _ ?_)
  try simp (disch := omega) only [hc.1.1.2.1.all, hc.1.1.2.2.1, hc.1.1.2.2.2.1.all, hc.1.1.2.2.2.all, hc.1.2, hc.2, wr_s, in_nI, clN, ti_z, ti_l, true_and, and_true, kI, zI, rI, kL, zL, rL, kR, zR, nnI, nnL, nnR, iL, iR, lI, lR, exi, exl, exv, eq_self, nI_add, nI_mul, nI_sub, nI_ltI, nI_leI, nI_eq, q0, q1, q2, q3, q4, q5, q6, q10, q100, br_Tr, br_Fa, iI_s, iI_n, bI_q0, bI_q1, or_true, true_or, not_true_eq_false, not_false_eq_true, nI_l, ge64, Nat.lt_irrefl, Nat.add_sub_cancel, Nat.not_lt_zero, lN_0, lN_1e4, lN_1e6, lN_1e3, lN_add, lN_mul, lN_ltI, lN_leI, lN_eqI, lN_i, lcE, lcLe, lcLt, lN_div, q7, q12, q20, q99, q200, q999, q1e4, if_true, if_false, Nat.le_refl]
  refine sg214_48 l G _ 332 _ _ ?_
  try simp (disch := omega) only [hc.1.1.2.1.all, hc.1.1.2.2.1, hc.1.1.2.2.2.1.all, hc.1.1.2.2.2.all, hc.1.2, hc.2, wr_s, in_nI, clN, ti_z, ti_l, true_and, and_true, kI, zI, rI, kL, zL, rL, kR, zR, nnI, nnL, nnR, iL, iR, lI, lR, exi, exl, exv, eq_self, nI_add, nI_mul, nI_sub, nI_ltI, nI_leI, nI_eq, q0, q1, q2, q3, q4, q5, q6, q10, q100, br_Tr, br_Fa, iI_s, iI_n, bI_q0, bI_q1, or_true, true_or, not_true_eq_false, not_false_eq_true, nI_l, ge64, Nat.lt_irrefl, Nat.add_sub_cancel, Nat.not_lt_zero, lN_0, lN_1e4, lN_1e6, lN_1e3, lN_add, lN_mul, lN_ltI, lN_leI, lN_eqI, lN_i, lcE, lcLe, lcLt, lN_div, q7, q12, q20, q99, q200, q999, q1e4, if_true, if_false, Nat.le_refl]
  have f : Fr (PCm N (nCh a)) μ (sI (sI (sI (sI (sI μ (N + 5) (nCh a) (nI t)) (N + 6) (nCh a) (nI m)) (N + 7) (nCh a) (nI h)) (N + 8) (nCh a) v) N 3 (nI (nCh a + 1))) := (((((Fr.refl _ _).put (Or.inr (Or.inl ⟨by omega, rfl⟩))).put (Or.inr (Or.inl ⟨by omega, rfl⟩))).put (Or.inr (Or.inl ⟨by omega, rfl⟩))).put (Or.inr (Or.inl ⟨by omega, rfl⟩))).put (Or.inr (Or.inr ⟨rfl, rfl⟩))
  have hr : RepM (sI (sI (sI (sI (sI μ (N + 5) (nCh a) (nI t)) (N + 6) (nCh a) (nI m)) (N + 7) (nCh a) (nI h)) (N + 8) (nCh a) v) N 3 (nI (nCh a + 1))) N (adc a t m h b) := by
    obtain ⟨h0, h1, h2, h3, h4, h5⟩ := hc.1.1.2.2.2
    refine ⟨h0.fr f, fun k hk => ?_, fun t ht f' hf => ?_, fun k hk => ?_, fun k hk => ⟨?_, ?_, fun g hg => ?_⟩, fun o ho => ⟨?_, ?_, ?_⟩⟩
    · by_cases e : k = 3
      · subst e; exact iI_s _ _ _ _
      · rw [f.I (by unfold PCm; omega), h1 k hk]
        show _ = nI (if k = 3 then _ else a.1 k)
        rw [if_neg e]
    · rw [f.I (by unfold PCm; omega)]; exact h2 t ht f' hf
    · have hk : k < nCh a + 1 := hk
      by_cases e : k = nCh a
      · subst e
        refine ⟨fun f' hf => ?_, fun hh => ?_⟩
        · show _ = nI (if a.1 3 = a.1 3 then adf t m h b f' else _)
          rw [if_pos rfl]
          have : f' = 0 ∨ f' = 1 ∨ f' = 2 := by omega
          rcases this with rfl | rfl | rfl
          · try simp (disch := omega) only [wr_s, in_nI, clN, ti_z, ti_l, true_and, and_true, kI, zI, rI, kL, zL, rL, kR, zR, nnI, nnL, nnR, iL, iR, lI, lR, exi, exl, exv, eq_self, nI_add, nI_mul, nI_sub, nI_ltI, nI_leI, nI_eq, q0, q1, q2, q3, q4, q5, q6, q10, q100, br_Tr, br_Fa, iI_s, iI_n, bI_q0, bI_q1, or_true, true_or, not_true_eq_false, not_false_eq_true, nI_l, ge64, Nat.lt_irrefl, Nat.add_sub_cancel, Nat.not_lt_zero, lN_0, lN_1e4, lN_1e6, lN_1e3, lN_add, lN_mul, lN_ltI, lN_leI, lN_eqI, lN_i, lcE, lcLe, lcLt, lN_div, q7, q12, q20, q99, q200, q999, q1e4, if_true, if_false, Nat.le_refl]; rfl
          · try simp (disch := omega) only [wr_s, in_nI, clN, ti_z, ti_l, true_and, and_true, kI, zI, rI, kL, zL, rL, kR, zR, nnI, nnL, nnR, iL, iR, lI, lR, exi, exl, exv, eq_self, nI_add, nI_mul, nI_sub, nI_ltI, nI_leI, nI_eq, q0, q1, q2, q3, q4, q5, q6, q10, q100, br_Tr, br_Fa, iI_s, iI_n, bI_q0, bI_q1, or_true, true_or, not_true_eq_false, not_false_eq_true, nI_l, ge64, Nat.lt_irrefl, Nat.add_sub_cancel, Nat.not_lt_zero, lN_0, lN_1e4, lN_1e6, lN_1e3, lN_add, lN_mul, lN_ltI, lN_leI, lN_eqI, lN_i, lcE, lcLe, lcLt, lN_div, q7, q12, q20, q99, q200, q999, q1e4, if_true, if_false, Nat.le_refl]; rfl
          · try simp (disch := omega) only [wr_s, in_nI, clN, ti_z, ti_l, true_and, and_true, kI, zI, rI, kL, zL, rL, kR, zR, nnI, nnL, nnR, iL, iR, lI, lR, exi, exl, exv, eq_self, nI_add, nI_mul, nI_sub, nI_ltI, nI_leI, nI_eq, q0, q1, q2, q3, q4, q5, q6, q10, q100, br_Tr, br_Fa, iI_s, iI_n, bI_q0, bI_q1, or_true, true_or, not_true_eq_false, not_false_eq_true, nI_l, ge64, Nat.lt_irrefl, Nat.add_sub_cancel, Nat.not_lt_zero, lN_0, lN_1e4, lN_1e6, lN_1e3, lN_add, lN_mul, lN_ltI, lN_leI, lN_eqI, lN_i, lcE, lcLe, lcLt, lN_div, q7, q12, q20, q99, q200, q999, q1e4, if_true, if_false, Nat.le_refl]; rfl
        · have hh : (if a.1 3 = a.1 3 then adf t m h b 2 else _) ≤ 4 := hh
          rw [if_pos rfl] at hh
          show _ = nI (if a.1 3 = a.1 3 then adf t m h b 3 else _)
          rw [if_pos rfl]
          try simp (disch := omega) only [wr_s, in_nI, clN, ti_z, ti_l, true_and, and_true, kI, zI, rI, kL, zL, rL, kR, zR, nnI, nnL, nnR, iL, iR, lI, lR, exi, exl, exv, eq_self, nI_add, nI_mul, nI_sub, nI_ltI, nI_leI, nI_eq, q0, q1, q2, q3, q4, q5, q6, q10, q100, br_Tr, br_Fa, iI_s, iI_n, bI_q0, bI_q1, or_true, true_or, not_true_eq_false, not_false_eq_true, nI_l, ge64, Nat.lt_irrefl, Nat.add_sub_cancel, Nat.not_lt_zero, lN_0, lN_1e4, lN_1e6, lN_1e3, lN_add, lN_mul, lN_ltI, lN_leI, lN_eqI, lN_i, lcE, lcLe, lcLt, lN_div, q7, q12, q20, q99, q200, q999, q1e4, if_true, if_false, Nat.le_refl]
          exact hv hh
      · refine ⟨fun f' hf => ?_, fun hh => ?_⟩
        · rw [f.I (by unfold PCm; omega), (h3 k (by omega)).1 f' hf]
          show _ = nI (if k = a.1 3 then _ else a.2.2.1 k f')
          rw [if_neg e]
        · have hh : (if k = a.1 3 then _ else a.2.2.1 k 2) ≤ 4 := hh
          rw [if_neg e] at hh
          rw [f.I (by unfold PCm; omega), (h3 k (by omega)).2 hh]
          show _ = nI (if k = a.1 3 then _ else a.2.2.1 k 3)
          rw [if_neg e]
    · rw [f.I (by unfold PCm; omega)]; exact (h4 k hk).1
    · rw [f.I (by unfold PCm; omega)]; exact (h4 k hk).2.1
    · rw [f.I (by unfold PCm; omega)]; exact (h4 k hk).2.2 g hg
    · rw [f.I (by unfold PCm; omega)]; exact (h5 o ho).1
    · rw [f.I (by unfold PCm; omega)]; exact (h5 o ho).2.1
    · rw [f.I (by unfold PCm; omega)]; exact (h5 o ho).2.2
  refine d202 ⟨adc_ok ha ht h1 hm hh hb9 hn, hc.1.1.2.1.fr f, by rw [f.R]; exact hc.1.1.2.2.1, hr⟩ (fun μ' f2 hB => ?_)
  exact q μ' (f.trans (f2.mono (fun b k q => Or.inl q))) hB
theorem d216 {c : Nat} {K : ax_M → Prop} (hm : isMo μ) (hl : isML μ N) (hr : gR μ 332 3 = some N) (hc : gI μ N 3 = nI (c + 1)) (hw : MW (sI μ N 3 (nI c)) N a) (q : ∀ μ', Fr PLy (sI μ N 3 (nI c)) μ' → MB μ' N a → K μ') : ax_CV l G 216 [ax_r (some 332)] μ K := by
  have hN := hl.1
  refine ax_Ct.of (by decide) (Nat.le_of_ble_eq_true rfl) (sg216_0 l G _ 332 _ ?_)
  try simp (disch := omega) only [hm.all, hl.all, hr, hc, wr_s, in_nI, clN, ti_z, ti_l, true_and, and_true, kI, zI, rI, kL, zL, rL, kR, zR, nnI, nnL, nnR, iL, iR, lI, lR, exi, exl, exv, eq_self, nI_add, nI_mul, nI_sub, nI_ltI, nI_leI, nI_eq, q0, q1, q2, q3, q4, q5, q6, q10, q100, br_Tr, br_Fa, iI_s, iI_n, bI_q0, bI_q1, or_true, true_or, not_true_eq_false, not_false_eq_true, nI_l, ge64, Nat.lt_irrefl, Nat.add_sub_cancel, Nat.not_lt_zero, lN_0, lN_1e4, lN_1e6, lN_1e3, lN_add, lN_mul, lN_ltI, lN_leI, lN_eqI, lN_i, lcE, lcLe, lcLt, lN_div, q7, q12, q20, q99, q200, q999, q1e4, if_true, if_false, Nat.le_refl]
  exact d202 hw q
theorem d231 {t m b w : Nat} {K : Int32 → ax_M → Prop} (hc : MB μ N a) (ht : t < nTh a) (h1 : 1 ≤ m) (hm : m < nMo a) (hb1 : 1 ≤ b) (hb9 : b ≤ 99) (hn : nCh a < 20) (hw : w < 3) (q : ∀ μ', Fr (PCm N (nCh a)) μ μ' → MB μ' N a → K (nI (gn a t m b w)) μ') : ax_CI l G 231 [ax_r (some 332), ax_i (nI t), ax_i (nI m), ax_i (nI b), ax_i (nI w)] μ K := by
  have hb := hc.bd
  have ha := hc.1.1.1
  have hcw : cw w ≤ 6 := by unfold cw; split <;> (try split) <;> omega
  have hgn := gn_in (w := w) ha ht h1 hm hb1 hb9 hn
  have hst := stt_in ha ht m
  refine ax_Ct.of (by decide) (Nat.le_of_ble_eq_true rfl) (sg231_0 l G _ 332 _ _ _ _ _ ?_)
  try simp (disch := omega) only [hc.1.1.2.1.all, hc.1.1.2.2.1, hc.1.1.2.2.2.1.all, hc.1.1.2.2.2.all, hc.1.2, hc.2, wr_s, in_nI, clN, ti_z, ti_l, true_and, and_true, kI, zI, rI, kL, zL, rL, kR, zR, nnI, nnL, nnR, iL, iR, lI, lR, exi, exl, exv, eq_self, nI_add, nI_mul, nI_sub, nI_ltI, nI_leI, nI_eq, q0, q1, q2, q3, q4, q5, q6, q10, q100, br_Tr, br_Fa, iI_s, iI_n, bI_q0, bI_q1, or_true, true_or, not_true_eq_false, not_false_eq_true, nI_l, ge64, Nat.lt_irrefl, Nat.add_sub_cancel, Nat.not_lt_zero, lN_0, lN_1e4, lN_1e6, lN_1e3, lN_add, lN_mul, lN_ltI, lN_leI, lN_eqI, lN_i, lcE, lcLe, lcLt, lN_div, q7, q12, q20, q99, q200, q999, q1e4, if_true, if_false, Nat.le_refl]
  refine d50 ?_
  try simp (disch := omega) only [hc.1.1.2.1.all, hc.1.1.2.2.1, hc.1.1.2.2.2.1.all, hc.1.1.2.2.2.all, hc.1.2, hc.2, wr_s, in_nI, clN, ti_z, ti_l, true_and, and_true, kI, zI, rI, kL, zL, rL, kR, zR, nnI, nnL, nnR, iL, iR, lI, lR, exi, exl, exv, eq_self, nI_add, nI_mul, nI_sub, nI_ltI, nI_leI, nI_eq, q0, q1, q2, q3, q4, q5, q6, q10, q100, br_Tr, br_Fa, iI_s, iI_n, bI_q0, bI_q1, or_true, true_or, not_true_eq_false, not_false_eq_true, nI_l, ge64, Nat.lt_irrefl, Nat.add_sub_cancel, Nat.not_lt_zero, lN_0, lN_1e4, lN_1e6, lN_1e3, lN_add, lN_mul, lN_ltI, lN_leI, lN_eqI, lN_i, lcE, lcLe, lcLt, lN_div, q7, q12, q20, q99, q200, q999, q1e4, if_true, if_false, Nat.le_refl]
  refine d50 ?_
  try simp (disch := omega) only [hc.1.1.2.1.all, hc.1.1.2.2.1, hc.1.1.2.2.2.1.all, hc.1.1.2.2.2.all, hc.1.2, hc.2, wr_s, in_nI, clN, ti_z, ti_l, true_and, and_true, kI, zI, rI, kL, zL, rL, kR, zR, nnI, nnL, nnR, iL, iR, lI, lR, exi, exl, exv, eq_self, nI_add, nI_mul, nI_sub, nI_ltI, nI_leI, nI_eq, q0, q1, q2, q3, q4, q5, q6, q10, q100, br_Tr, br_Fa, iI_s, iI_n, bI_q0, bI_q1, or_true, true_or, not_true_eq_false, not_false_eq_true, nI_l, ge64, Nat.lt_irrefl, Nat.add_sub_cancel, Nat.not_lt_zero, lN_0, lN_1e4, lN_1e6, lN_1e3, lN_add, lN_mul, lN_ltI, lN_leI, lN_eqI, lN_i, lcE, lcLe, lcLt, lN_div, q7, q12, q20, q99, q200, q999, q1e4, if_true, if_false, Nat.le_refl]
  refine d56 hw ?_
  try simp (disch := omega) only [hc.1.1.2.1.all, hc.1.1.2.2.1, hc.1.1.2.2.2.1.all, hc.1.1.2.2.2.all, hc.1.2, hc.2, wr_s, in_nI, clN, ti_z, ti_l, true_and, and_true, kI, zI, rI, kL, zL, rL, kR, zR, nnI, nnL, nnR, iL, iR, lI, lR, exi, exl, exv, eq_self, nI_add, nI_mul, nI_sub, nI_ltI, nI_leI, nI_eq, q0, q1, q2, q3, q4, q5, q6, q10, q100, br_Tr, br_Fa, iI_s, iI_n, bI_q0, bI_q1, or_true, true_or, not_true_eq_false, not_false_eq_true, nI_l, ge64, Nat.lt_irrefl, Nat.add_sub_cancel, Nat.not_lt_zero, lN_0, lN_1e4, lN_1e6, lN_1e3, lN_add, lN_mul, lN_ltI, lN_leI, lN_eqI, lN_i, lcE, lcLe, lcLt, lN_div, q7, q12, q20, q99, q200, q999, q1e4, if_true, if_false, Nat.le_refl]
  refine d214 (b := b) hc ht h1 hm hcw (by omega) hn (fun _ => rfl) (fun μ1 f1 hc1 => ?_)
  have hb1' := hc1.bd
  have ha1 := hc1.1.1.1
  have ht1 : t < nTh (adc a t m (cw w) b) := ht
  have hm1 : m < nMo (adc a t m (cw w) b) := hm
  have hp1 := (stt_in ha1 ht1 m).2.2
  have hap := allP_in ha1 (m := m) ht1
  try simp (disch := omega) only [wr_s, in_nI, clN, ti_z, ti_l, true_and, and_true, kI, zI, rI, kL, zL, rL, kR, zR, nnI, nnL, nnR, iL, iR, lI, lR, exi, exl, exv, eq_self, nI_add, nI_mul, nI_sub, nI_ltI, nI_leI, nI_eq, q0, q1, q2, q3, q4, q5, q6, q10, q100, br_Tr, br_Fa, iI_s, iI_n, bI_q0, bI_q1, or_true, true_or, not_true_eq_false, not_false_eq_true, nI_l, ge64, Nat.lt_irrefl, Nat.add_sub_cancel, Nat.not_lt_zero, lN_0, lN_1e4, lN_1e6, lN_1e3, lN_add, lN_mul, lN_ltI, lN_leI, lN_eqI, lN_i, lcE, lcLe, lcLt, lN_div, q7, q12, q20, q99, q200, q999, q1e4, if_true, if_false, Nat.le_refl]
  refine up_to (P := fun h => (ax_Rw l G ax_h231 (ax_E G ax_h231 (fun x μ' => ∃ v : Int32, x = some (ax_i v) ∧ K v μ')) 42 [(0, ax_r (some 332)), (1, ax_i (nI t)), (2, ax_i (nI m)), (3, ax_i (nI b)), (4, ax_i (nI w)), (5, ax_i (nI (Sz a t m))), (6, ax_i (nI (Sf a t m))), (7, ax_l (lN (sumN (fun h => pcO (adc a t m (cw w) b) h t m) h))), (9, ax_i (nI h))] [] 0 0 μ1)) (nHo (adc a t m (cw w) b)) ?_ (fun h hh ih => ?_) 0 (Nat.zero_le _)
  · rw [show sumN (fun h => pcO (adc a t m (cw w) b) h t m) (nHo (adc a t m (cw w) b)) = allP (adc a t m (cw w) b) t m from rfl]
    refine sg231_42 l G _ 332 _ _ _ _ _ _ _ _ _ ?_
    try simp (disch := omega) only [hc1.1.1.2.1.all, hc1.1.1.2.2.1, hc1.1.1.2.2.2.1.all, hc1.1.1.2.2.2.all, hc1.1.2, hc1.2, wr_s, in_nI, clN, ti_z, ti_l, true_and, and_true, kI, zI, rI, kL, zL, rL, kR, zR, nnI, nnL, nnR, iL, iR, lI, lR, exi, exl, exv, eq_self, nI_add, nI_mul, nI_sub, nI_ltI, nI_leI, nI_eq, q0, q1, q2, q3, q4, q5, q6, q10, q100, br_Tr, br_Fa, iI_s, iI_n, bI_q0, bI_q1, or_true, true_or, not_true_eq_false, not_false_eq_true, nI_l, ge64, Nat.lt_irrefl, Nat.add_sub_cancel, Nat.not_lt_zero, lN_0, lN_1e4, lN_1e6, lN_1e3, lN_add, lN_mul, lN_ltI, lN_leI, lN_eqI, lN_i, lcE, lcLe, lcLt, lN_div, q7, q12, q20, q99, q200, q999, q1e4, if_true, if_false, Nat.le_refl]
    refine d50 ?_
    try simp (disch := omega) only [hc1.1.1.2.1.all, hc1.1.1.2.2.1, hc1.1.1.2.2.2.1.all, hc1.1.1.2.2.2.all, hc1.1.2, hc1.2, wr_s, in_nI, clN, ti_z, ti_l, true_and, and_true, kI, zI, rI, kL, zL, rL, kR, zR, nnI, nnL, nnR, iL, iR, lI, lR, exi, exl, exv, eq_self, nI_add, nI_mul, nI_sub, nI_ltI, nI_leI, nI_eq, q0, q1, q2, q3, q4, q5, q6, q10, q100, br_Tr, br_Fa, iI_s, iI_n, bI_q0, bI_q1, or_true, true_or, not_true_eq_false, not_false_eq_true, nI_l, ge64, Nat.lt_irrefl, Nat.add_sub_cancel, Nat.not_lt_zero, lN_0, lN_1e4, lN_1e6, lN_1e3, lN_add, lN_mul, lN_ltI, lN_leI, lN_eqI, lN_i, lcE, lcLe, lcLt, lN_div, q7, q12, q20, q99, q200, q999, q1e4, if_true, if_false, Nat.le_refl]
    have hr := hc.1.1.2.2.2.bk f1
    have hw1 : MW (sI μ1 N 3 (nI (nCh a))) N a := ⟨ha, hc1.1.1.2.1.fr ((Fr.refl (fun _ _ => True) μ1).put trivial), hc1.1.1.2.2.1, hr⟩
    refine d216 hc1.1.1.2.1 hc1.1.1.2.2.2.1 hc1.1.1.2.2.1 (c := nCh a) (hc1.1.1.2.2.2.2.1 3 (by omega)) hw1 (fun μ2 f2 hc2 => ?_)
    have q := q μ2 ((f1.put (Or.inr (Or.inr ⟨rfl, rfl⟩))).trans (f2.mono (fun b k q => Or.inl q))) hc2
    obtain ⟨g1, g2, g3⟩ := hgn
    have ecm : Pr (adc a t m (cw w) b) t m * b * allP (adc a t m (cw w) b) t m = b * allP (adc a t m (cw w) b) t m * Pr (adc a t m (cw w) b) t m := by rw [Nat.mul_assoc, Nat.mul_comm]
    unfold gn at q
    generalize allP (adc a t m (cw w) b) t m = A at q g1 g2 hap ecm ⊢
    generalize Pr (adc a t m (cw w) b) t m = P at q g2 hp1 ecm ⊢
    have e3 : P * b ≤ 999 * 99 := Nat.mul_le_mul hp1.2 hb9
    try simp (disch := omega) only [ecm, wr_s, in_nI, clN, ti_z, ti_l, true_and, and_true, kI, zI, rI, kL, zL, rL, kR, zR, nnI, nnL, nnR, iL, iR, lI, lR, exi, exl, exv, eq_self, nI_add, nI_mul, nI_sub, nI_ltI, nI_leI, nI_eq, q0, q1, q2, q3, q4, q5, q6, q10, q100, br_Tr, br_Fa, iI_s, iI_n, bI_q0, bI_q1, or_true, true_or, not_true_eq_false, not_false_eq_true, nI_l, ge64, Nat.lt_irrefl, Nat.add_sub_cancel, Nat.not_lt_zero, lN_0, lN_1e4, lN_1e6, lN_1e3, lN_add, lN_mul, lN_ltI, lN_leI, lN_eqI, lN_i, lcE, lcLe, lcLt, lN_div, q7, q12, q20, q99, q200, q999, q1e4, if_true, if_false, Nat.le_refl]
    refine ax_brc (fun h0 => ?_) (fun h0 => ?_)
    · rw [if_pos h0] at q; exact q
    rw [if_neg h0] at q
    refine ax_brc (fun h2 => ?_) (fun h2 => ?_)
    · rw [if_pos h2] at q
      exact ⟨by omega, q⟩
    · rw [if_neg h2] at q
      exact ⟨by omega, q⟩
  · have hp : pcO (adc a t m (cw w) b) h t m ≤ 99 := by
      unfold pcO; split
      · exact (buy_in ha1 hh (show tG (adc a t m (cw w) b) t < 4 by have := ha1.tg ht1; omega) m).2.1
      · omega
    rw [sumN_s] at ih
    refine sg231_42 l G _ 332 _ _ _ _ _ _ _ _ _ ?_
    try simp (disch := omega) only [hc1.1.1.2.1.all, hc1.1.1.2.2.1, hc1.1.1.2.2.2.1.all, hc1.1.1.2.2.2.all, hc1.1.2, hc1.2, hh, wr_s, in_nI, clN, ti_z, ti_l, true_and, and_true, kI, zI, rI, kL, zL, rL, kR, zR, nnI, nnL, nnR, iL, iR, lI, lR, exi, exl, exv, eq_self, nI_add, nI_mul, nI_sub, nI_ltI, nI_leI, nI_eq, q0, q1, q2, q3, q4, q5, q6, q10, q100, br_Tr, br_Fa, iI_s, iI_n, bI_q0, bI_q1, or_true, true_or, not_true_eq_false, not_false_eq_true, nI_l, ge64, Nat.lt_irrefl, Nat.add_sub_cancel, Nat.not_lt_zero, lN_0, lN_1e4, lN_1e6, lN_1e3, lN_add, lN_mul, lN_ltI, lN_leI, lN_eqI, lN_i, lcE, lcLe, lcLt, lN_div, q7, q12, q20, q99, q200, q999, q1e4, if_true, if_false, Nat.le_refl]
    refine d117 hc1 hh ht1 hm1 ?_
    try simp (disch := omega) only [wr_s, in_nI, clN, ti_z, ti_l, true_and, and_true, kI, zI, rI, kL, zL, rL, kR, zR, nnI, nnL, nnR, iL, iR, lI, lR, exi, exl, exv, eq_self, nI_add, nI_mul, nI_sub, nI_ltI, nI_leI, nI_eq, q0, q1, q2, q3, q4, q5, q6, q10, q100, br_Tr, br_Fa, iI_s, iI_n, bI_q0, bI_q1, or_true, true_or, not_true_eq_false, not_false_eq_true, nI_l, ge64, Nat.lt_irrefl, Nat.add_sub_cancel, Nat.not_lt_zero, lN_0, lN_1e4, lN_1e6, lN_1e3, lN_add, lN_mul, lN_ltI, lN_leI, lN_eqI, lN_i, lcE, lcLe, lcLt, lN_div, q7, q12, q20, q99, q200, q999, q1e4, if_true, if_false, Nat.le_refl]
    exact ih
end F8
