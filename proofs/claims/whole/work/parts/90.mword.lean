/-! the model: the reader's small words -/
def NmM (μ : ax_M) (N : Nat) (m : Nm) : Prop := gI μ N 7 = nI m.1 ∧ ∀ i, i < m.1 → gL μ (N + 15) i = lN (cdB 32 96 (m.2 i).1) ∧ gI μ (N + 16) i = nI (min (m.2 i).2.1 2) ∧ gI μ (N + 17) i = nI (m.2 i).2.2
def MR (μ : ax_M) (N n : Nat) (p : Nat → Nat) (s : PS) : Prop := MTp μ p n ∧ (gR μ 332 4 = some N ∧ gI μ 332 13 = nI 0) ∧ MTk μ s.1 ∧ TkOk n s.1 ∧ RepM μ N (tll (pL s)) ∧ NmM μ N (pM s) ∧ NmOk (pM s) ∧ CnB (pL s)
def MO (μ : ax_M) (N : Nat) (e : Nat × Nat) : Prop := isMo μ ∧ gR μ 332 4 = some N ∧ isML μ N ∧ (∃ c, c ≤ 18 ∧ gI μ N 7 = nI c) ∧ gI μ 332 9 = nI 5 ∧ gI μ 332 13 = nI e.1 ∧ gI μ 332 14 = nI e.2 ∧ 1 ≤ e.1 ∧ e.1 ≤ 6
theorem MR.cn {μ : ax_M} {N n : Nat} {p : Nat → Nat} {s : PS} (h : MR μ N n p s) : gI μ N 0 = nI (nMo (pL s)) ∧ gI μ N 1 = nI (nGr (pL s)) ∧ gI μ N 2 = nI (nTh (pL s)) ∧ gI μ N 3 = nI (nCh (pL s)) ∧ gI μ N 5 = nI (nHo (pL s)) ∧ gI μ N 6 = nI (nOf (pL s)) :=
  have r := h.2.2.2.2.1.2.1
  ⟨r 0 (by omega), r 1 (by omega), r 2 (by omega), r 3 (by omega), r 5 (by omega), r 6 (by omega)⟩
theorem MR.bd {μ : ax_M} {N n : Nat} {p : Nat → Nat} {s : PS} (h : MR μ N n p s) : (nMo (pL s) ≤ 12 ∧ nGr (pL s) ≤ 4 ∧ nTh (pL s) ≤ 8 ∧ nCh (pL s) ≤ 16 ∧ nHo (pL s) ≤ 3 ∧ nOf (pL s) ≤ 3) ∧ 341 ≤ N ∧ n ≤ 900 ∧ (s.1.2.1 ≤ s.1.2.2.1 ∧ s.1.2.2.1 ≤ n ∧ s.1.1 ≤ 5 ∧ s.1.2.2.2.2 ≤ 999) ∧ (pM s).1 ≤ 18 ∧ mkd s.1.1 ≤ 4 :=
  ⟨h.2.2.2.2.2.2.2, h.2.2.2.2.1.1.1, h.1.2.2.1, ⟨h.2.2.2.1.1, h.2.2.2.1.2.1, h.2.2.2.1.2.2.1, h.2.2.2.1.2.2.2.2.2.2.1⟩, h.2.2.2.2.2.2.1.1, mkd_le _⟩
theorem MR.w {μ : ax_M} {N n : Nat} {p : Nat → Nat} {s : PS} (h : MR μ N n p s) : okW (tW s) := h.2.2.2.1.2.2.2.1
theorem RepM.fk {P : Nat → Nat → Prop} {μ μ1 : ax_M} {N : Nat} {a : Ld} (hl : RepM μ N a) (h : FK P μ μ1) (hp : ∀ b k, N ≤ b → b < N + 18 → ¬ P b k) : RepM μ1 N a := by
  obtain ⟨h0, h1, h2, h3, h4, h5⟩ := hl
  refine ⟨h0.fk h, fun k hk => ?_, fun t ht f hf => ?_, fun k hk => ⟨fun f hf => ?_, fun hh => ?_⟩, fun k hk => ⟨?_, ?_, fun g hg => ?_⟩, fun o ho => ⟨?_, ?_, ?_⟩⟩
  · rw [h.I (hp _ _ (by omega) (by omega))]; exact h1 k hk
  · rw [h.I (hp _ _ (by omega) (by omega))]; exact h2 t ht f hf
  · rw [h.I (hp _ _ (by omega) (by omega))]; exact (h3 k hk).1 f hf
  · rw [h.I (hp _ _ (by omega) (by omega))]; exact (h3 k hk).2 hh
  · rw [h.I (hp _ _ (by omega) (by omega))]; exact (h4 k hk).1
  · rw [h.I (hp _ _ (by omega) (by omega))]; exact (h4 k hk).2.1
  · rw [h.I (hp _ _ (by omega) (by omega))]; exact (h4 k hk).2.2 g hg
  · rw [h.I (hp _ _ (by omega) (by omega))]; exact (h5 o ho).1
  · rw [h.I (hp _ _ (by omega) (by omega))]; exact (h5 o ho).2.1
  · rw [h.I (hp _ _ (by omega) (by omega))]; exact (h5 o ho).2.2
theorem MR.adv {μ μ1 : ax_M} {N n : Nat} {p : Nat → Nat} {s : PS} (h : MR μ N n p s) (f : FK PT μ μ1) (hk : MTk μ1 (adv p n (tE s))) : MR μ1 N n p (ad p n s) := by
  have hb := h.bd
  refine ⟨h.1.fk f (fun b k q => Or.inl ⟨q.1, q.2.1⟩), ⟨by rw [f.R]; exact h.2.1.1, by rw [f.I (fun q => q.2.2 rfl)]; exact h.2.1.2⟩, hk, (adv_ok hb.2.2.2.1.2.1).1, h.2.2.2.2.1.fk f (fun b k h1 h2 q => by have := q.1; omega), ⟨?_, fun i hi => ?_⟩, h.2.2.2.2.2.2.1, h.2.2.2.2.2.2.2⟩
  · rw [f.I (by omega)]; exact h.2.2.2.2.2.1.1
  · rw [f.L (by omega), f.I (by omega), f.I (by omega)]; exact h.2.2.2.2.2.1.2 i hi
theorem mkd_n {k : Nat} (h : k ≤ 4) : mkd k ≠ 0 := by unfold mkd; split <;> (try split) <;> (try split) <;> (try split) <;> omega
section V2
variable {l : Launch} {G : ax_G} {μ : ax_M} {p : Nat → Nat} {n N : Nat} {s : PS} {e : Nat × Nat}
theorem d78 {b : Nat} {w : List Nat} {K : Int32 → ax_M → Prop} (h : isStr μ b w) (q : K (nI 0) μ) : ax_CI l G 78 [ax_r (some b)] μ K := by
  refine ax_Ct.of (by decide) (Nat.le_of_ble_eq_true rfl) (sg78_0 l G _ b _ ?_)
  refine ax_brf (by decide) ?_
  try simp (disch := omega) only [h.1, h.2.2.1, wr_s, in_nI, clN, ti_z, ti_l, true_and, and_true, kI, zI, rI, kL, zL, rL, kR, zR, nnI, nnL, nnR, iL, iR, lI, lR, exi, exl, exv, eq_self, nI_add, nI_mul, nI_sub, nI_ltI, nI_leI, nI_eq, q0, q1, q2, q3, q4, q5, q6, q10, q100, br_Tr, br_Fa, iI_s, iI_n, bI_q0, bI_q1, or_true, true_or, not_true_eq_false, not_false_eq_true, nI_l, ge64, Nat.lt_irrefl, Nat.add_sub_cancel, Nat.not_lt_zero, lN_0, lN_1e4, lN_1e6, lN_1e3, lN_add, lN_mul, lN_ltI, lN_leI, lN_eqI, lN_i, lcE, lcLe, lcLt, lN_div, q7, q12, q20, q99, q200, q999, q1e4, if_true, if_false, Nat.le_refl, q8, q11, q16, q18, q32, q44, q48, q57, q59, q97, q122, q900]
  exact ⟨by decide +kernel, q⟩
theorem d79 {b : Nat} {w : List Nat} {K : Int32 → ax_M → Prop} (h : isStr μ b w) (q : K (nI 1) μ) : ax_CI l G 79 [ax_r (some b)] μ K := by
  refine ax_Ct.of (by decide) (Nat.le_of_ble_eq_true rfl) (sg79_0 l G _ b _ ?_)
  refine ax_brf (by decide) ?_
  try simp (disch := omega) only [h.1, h.2.2.1, wr_s, in_nI, clN, ti_z, ti_l, true_and, and_true, kI, zI, rI, kL, zL, rL, kR, zR, nnI, nnL, nnR, iL, iR, lI, lR, exi, exl, exv, eq_self, nI_add, nI_mul, nI_sub, nI_ltI, nI_leI, nI_eq, q0, q1, q2, q3, q4, q5, q6, q10, q100, br_Tr, br_Fa, iI_s, iI_n, bI_q0, bI_q1, or_true, true_or, not_true_eq_false, not_false_eq_true, nI_l, ge64, Nat.lt_irrefl, Nat.add_sub_cancel, Nat.not_lt_zero, lN_0, lN_1e4, lN_1e6, lN_1e3, lN_add, lN_mul, lN_ltI, lN_leI, lN_eqI, lN_i, lcE, lcLe, lcLt, lN_div, q7, q12, q20, q99, q200, q999, q1e4, if_true, if_false, Nat.le_refl, q8, q11, q16, q18, q32, q44, q48, q57, q59, q97, q122, q900]
  exact q
theorem d124 {b : Nat} {w : List Nat} {K : Int32 → ax_M → Prop} (h : isStr μ b w) (q : K (nI w.length) μ) : ax_CI l G 124 [ax_r (some b)] μ K := by
  have hl := h.2.2.2.2.2.1.1
  refine ax_Ct.of (by decide) (Nat.le_of_ble_eq_true rfl) (sg124_0 l G _ b _ ?_)
  try simp (disch := omega) only [h.1, h.2.1, h.2.2.2.1, h.2.2.2.2.1, show 20 ≤ 20 ∧ 20 ≤ 28 by omega, wr_s, in_nI, clN, ti_z, ti_l, true_and, and_true, kI, zI, rI, kL, zL, rL, kR, zR, nnI, nnL, nnR, iL, iR, lI, lR, exi, exl, exv, eq_self, nI_add, nI_mul, nI_sub, nI_ltI, nI_leI, nI_eq, q0, q1, q2, q3, q4, q5, q6, q10, q100, br_Tr, br_Fa, iI_s, iI_n, bI_q0, bI_q1, or_true, true_or, not_true_eq_false, not_false_eq_true, nI_l, ge64, Nat.lt_irrefl, Nat.add_sub_cancel, Nat.not_lt_zero, lN_0, lN_1e4, lN_1e6, lN_1e3, lN_add, lN_mul, lN_ltI, lN_leI, lN_eqI, lN_i, lcE, lcLe, lcLt, lN_div, q7, q12, q20, q99, q200, q999, q1e4, if_true, if_false, Nat.le_refl, q8, q11, q16, q18, q32, q44, q48, q57, q59, q97, q122, q900]
  refine d78 h ?_
  have e : ∀ k, k ≤ 8 → nI k >>> (nI 0 &&& 31) = nI k := by decide +kernel
  rw [e _ hl]
  exact q
theorem d80 {i c : Nat} {r : Option Nat} {K : Int32 → ax_M → Prop} (h : i < c) (hc : c < 2 ^ 31) (q : K (nI i) μ) : ax_CI l G 80 [ax_i (nI i), ax_i (nI c), ax_r r] μ K := by
  refine ax_Ct.of (by decide) (Nat.le_of_ble_eq_true rfl) (sg80_0 l G _ _ _ _ _ ?_)
  try simp (disch := omega) only [h, wr_s, in_nI, clN, ti_z, ti_l, true_and, and_true, kI, zI, rI, kL, zL, rL, kR, zR, nnI, nnL, nnR, iL, iR, lI, lR, exi, exl, exv, eq_self, nI_add, nI_mul, nI_sub, nI_ltI, nI_leI, nI_eq, q0, q1, q2, q3, q4, q5, q6, q10, q100, br_Tr, br_Fa, iI_s, iI_n, bI_q0, bI_q1, or_true, true_or, not_true_eq_false, not_false_eq_true, nI_l, ge64, Nat.lt_irrefl, Nat.add_sub_cancel, Nat.not_lt_zero, lN_0, lN_1e4, lN_1e6, lN_1e3, lN_add, lN_mul, lN_ltI, lN_leI, lN_eqI, lN_i, lcE, lcLe, lcLt, lN_div, q7, q12, q20, q99, q200, q999, q1e4, if_true, if_false, Nat.le_refl, q8, q11, q16, q18, q32, q44, q48, q57, q59, q97, q122, q900]
  exact q
theorem d123 {i c : Nat} {K : ax_M → Prop} (h : i < c) (hc : c < 2 ^ 31) (q : K μ) : ax_CV l G 123 [ax_i (nI i), ax_i (nI c)] μ K := by
  refine ax_Ct.of (by decide) (Nat.le_of_ble_eq_true rfl) (sg123_0 l G _ _ _ _ ?_)
  exact d80 h hc ⟨rfl, q⟩
theorem d160 {b i : Nat} {w : List Nat} {K : Int32 → ax_M → Prop} (h : isStr μ b w) (hi : i < w.length) (q : K (nI (w.getD (w.length - 1 - i) 0)) μ) : ax_CI l G 160 [ax_r (some (b + 28)), ax_i (nI i)] μ K := by
  have hl := h.2.2.2.2.2.1.1
  have hg : w.getD (w.length - 1 - i) 0 < 128 := by
    have hm : w.getD (w.length - 1 - i) 0 ∈ w := by
      rw [List.getD_eq_getElem?_getD, List.getElem?_eq_getElem (by omega), Option.getD_some]
      exact List.getElem_mem _
    have := h.2.2.2.2.2.1.2 _ hm
    omega
  refine ax_Ct.of (by decide) (Nat.le_of_ble_eq_true rfl) (sg160_0 l G _ (b + 28) _ _ ?_)
  try simp (disch := omega) only [h.2.2.2.1, h.2.2.2.2.1, show 20 ≤ 20 ∧ 20 ≤ 28 by omega, wr_s, in_nI, clN, ti_z, ti_l, true_and, and_true, kI, zI, rI, kL, zL, rL, kR, zR, nnI, nnL, nnR, iL, iR, lI, lR, exi, exl, exv, eq_self, nI_add, nI_mul, nI_sub, nI_ltI, nI_leI, nI_eq, q0, q1, q2, q3, q4, q5, q6, q10, q100, br_Tr, br_Fa, iI_s, iI_n, bI_q0, bI_q1, or_true, true_or, not_true_eq_false, not_false_eq_true, nI_l, ge64, Nat.lt_irrefl, Nat.add_sub_cancel, Nat.not_lt_zero, lN_0, lN_1e4, lN_1e6, lN_1e3, lN_add, lN_mul, lN_ltI, lN_leI, lN_eqI, lN_i, lcE, lcLe, lcLt, lN_div, q7, q12, q20, q99, q200, q999, q1e4, if_true, if_false, Nat.le_refl, q8, q11, q16, q18, q32, q44, q48, q57, q59, q97, q122, q900]
  refine d123 hi (by omega) ?_
  try simp (disch := omega) only [h.2.2.2.1, h.2.2.2.2.1, wr_s, in_nI, clN, ti_z, ti_l, true_and, and_true, kI, zI, rI, kL, zL, rL, kR, zR, nnI, nnL, nnR, iL, iR, lI, lR, exi, exl, exv, eq_self, nI_add, nI_mul, nI_sub, nI_ltI, nI_leI, nI_eq, q0, q1, q2, q3, q4, q5, q6, q10, q100, br_Tr, br_Fa, iI_s, iI_n, bI_q0, bI_q1, or_true, true_or, not_true_eq_false, not_false_eq_true, nI_l, ge64, Nat.lt_irrefl, Nat.add_sub_cancel, Nat.not_lt_zero, lN_0, lN_1e4, lN_1e6, lN_1e3, lN_add, lN_mul, lN_ltI, lN_leI, lN_eqI, lN_i, lcE, lcLe, lcLt, lN_div, q7, q12, q20, q99, q200, q999, q1e4, if_true, if_false, Nat.le_refl, q8, q11, q16, q18, q32, q44, q48, q57, q59, q97, q122, q900]
  rw [h.2.2.2.2.2.2 i hi]
  generalize w.getD (w.length - 1 - i) 0 = c at q hg
  have e : ∀ c, c < 128 → (Int32.toUInt32 (nI c &&& 255) % 65536).toInt32 = nI c := by decide +kernel
  rw [e c hg]
  have e2 : ∀ c, c < 128 → (¬ nI c < nI 0 ∧ nI c ≤ 65535) := by decide +kernel
  exact ⟨e2 c hg, q⟩
theorem d182 {b i : Nat} {w : List Nat} {K : Int32 → ax_M → Prop} (h : isStr μ b w) (hi : i < w.length) (q : K (nI (w.getD (w.length - 1 - i) 0)) μ) : ax_CI l G 182 [ax_r (some b), ax_i (nI i)] μ K := by
  have hg : w.getD (w.length - 1 - i) 0 < 128 := by
    have hm : w.getD (w.length - 1 - i) 0 ∈ w := by
      rw [List.getD_eq_getElem?_getD, List.getElem?_eq_getElem (by omega), Option.getD_some]
      exact List.getElem_mem _
    have := h.2.2.2.2.2.1.2 _ hm
    omega
  refine ax_Ct.of (by decide) (Nat.le_of_ble_eq_true rfl) (sg182_0 l G _ b _ _ ?_)
  try simp (disch := omega) only [h.1, wr_s, in_nI, clN, ti_z, ti_l, true_and, and_true, kI, zI, rI, kL, zL, rL, kR, zR, nnI, nnL, nnR, iL, iR, lI, lR, exi, exl, exv, eq_self, nI_add, nI_mul, nI_sub, nI_ltI, nI_leI, nI_eq, q0, q1, q2, q3, q4, q5, q6, q10, q100, br_Tr, br_Fa, iI_s, iI_n, bI_q0, bI_q1, or_true, true_or, not_true_eq_false, not_false_eq_true, nI_l, ge64, Nat.lt_irrefl, Nat.add_sub_cancel, Nat.not_lt_zero, lN_0, lN_1e4, lN_1e6, lN_1e3, lN_add, lN_mul, lN_ltI, lN_leI, lN_eqI, lN_i, lcE, lcLe, lcLt, lN_div, q7, q12, q20, q99, q200, q999, q1e4, if_true, if_false, Nat.le_refl, q8, q11, q16, q18, q32, q44, q48, q57, q59, q97, q122, q900]
  refine d79 h ?_
  try simp (disch := omega) only [h.1, h.2.1, show ¬ (1 = 0) by omega, wr_s, in_nI, clN, ti_z, ti_l, true_and, and_true, kI, zI, rI, kL, zL, rL, kR, zR, nnI, nnL, nnR, iL, iR, lI, lR, exi, exl, exv, eq_self, nI_add, nI_mul, nI_sub, nI_ltI, nI_leI, nI_eq, q0, q1, q2, q3, q4, q5, q6, q10, q100, br_Tr, br_Fa, iI_s, iI_n, bI_q0, bI_q1, or_true, true_or, not_true_eq_false, not_false_eq_true, nI_l, ge64, Nat.lt_irrefl, Nat.add_sub_cancel, Nat.not_lt_zero, lN_0, lN_1e4, lN_1e6, lN_1e3, lN_add, lN_mul, lN_ltI, lN_leI, lN_eqI, lN_i, lcE, lcLe, lcLt, lN_div, q7, q12, q20, q99, q200, q999, q1e4, if_true, if_false, Nat.le_refl, q8, q11, q16, q18, q32, q44, q48, q57, q59, q97, q122, q900]
  refine d160 h hi ?_
  generalize w.getD (w.length - 1 - i) 0 = c at q hg
  have e2 : ∀ c, c < 128 → (¬ nI c < nI 0 ∧ nI c ≤ 65535) := by decide +kernel
  exact ⟨e2 c hg, q⟩
theorem d192 {b : Nat} {w : List Nat} {K : Int64 → ax_M → Prop} (hG : isStr (ax_0 G) b w) (hb : b + 28 < 64) (q : K (lN (cdB 32 96 w)) μ) : ax_CL l G 192 [ax_r (some b)] μ K := by
  refine ax_Ct.of (by decide) (Nat.le_of_ble_eq_true rfl) (ax_Rw.cst fun ag => sg192_0 l G _ b _ ?_)
  have h := hG.ag ag hb
  have hl := h.2.2.2.2.2.1.1
  have ho := h.2.2.2.2.2.1
  refine up_to (P := fun i => (ax_Rw l G ax_h192 (ax_E G ax_h192 (fun x μ' => ∃ v : Int64, x = some (ax_l v) ∧ K v μ')) 4 [(0, ax_r (some b)), (1, ax_l (lN (cdB 32 96 (w.drop (w.length - i))))), (3, ax_i (nI i))] [] 0 0 μ)) w.length ?_ (fun i hi ih => ?_) 0 (Nat.zero_le _) |> fun z => by
    rw [Nat.sub_zero, List.drop_length] at z; exact z
  · rw [Nat.sub_self, List.drop_zero]
    refine sg192_4 l G _ b _ _ _ ?_
    try simp (disch := omega) only [h.1, wr_s, in_nI, clN, ti_z, ti_l, true_and, and_true, kI, zI, rI, kL, zL, rL, kR, zR, nnI, nnL, nnR, iL, iR, lI, lR, exi, exl, exv, eq_self, nI_add, nI_mul, nI_sub, nI_ltI, nI_leI, nI_eq, q0, q1, q2, q3, q4, q5, q6, q10, q100, br_Tr, br_Fa, iI_s, iI_n, bI_q0, bI_q1, or_true, true_or, not_true_eq_false, not_false_eq_true, nI_l, ge64, Nat.lt_irrefl, Nat.add_sub_cancel, Nat.not_lt_zero, lN_0, lN_1e4, lN_1e6, lN_1e3, lN_add, lN_mul, lN_ltI, lN_leI, lN_eqI, lN_i, lcE, lcLe, lcLt, lN_div, q7, q12, q20, q99, q200, q999, q1e4, if_true, if_false, Nat.le_refl, q8, q11, q16, q18, q32, q44, q48, q57, q59, q97, q122, q900]
    refine d124 h ?_
    try simp (disch := omega) only [wr_s, in_nI, clN, ti_z, ti_l, true_and, and_true, kI, zI, rI, kL, zL, rL, kR, zR, nnI, nnL, nnR, iL, iR, lI, lR, exi, exl, exv, eq_self, nI_add, nI_mul, nI_sub, nI_ltI, nI_leI, nI_eq, q0, q1, q2, q3, q4, q5, q6, q10, q100, br_Tr, br_Fa, iI_s, iI_n, bI_q0, bI_q1, or_true, true_or, not_true_eq_false, not_false_eq_true, nI_l, ge64, Nat.lt_irrefl, Nat.add_sub_cancel, Nat.not_lt_zero, lN_0, lN_1e4, lN_1e6, lN_1e3, lN_add, lN_mul, lN_ltI, lN_leI, lN_eqI, lN_i, lcE, lcLe, lcLt, lN_div, q7, q12, q20, q99, q200, q999, q1e4, if_true, if_false, Nat.le_refl, q8, q11, q16, q18, q32, q44, q48, q57, q59, q97, q122, q900]
    exact q
  · have hd : w.drop (w.length - (i + 1)) = w.getD (w.length - 1 - i) 0 :: w.drop (w.length - i) := by
      rw [show w.length - i = w.length - (i + 1) + 1 by omega, List.drop_eq_getElem_cons (by omega), List.getD_eq_getElem?_getD, List.getElem?_eq_getElem (by omega), Option.getD_some]
      congr 1
      congr 1
      omega
    have hm : w.getD (w.length - 1 - i) 0 ∈ w := by
      rw [List.getD_eq_getElem?_getD, List.getElem?_eq_getElem (by omega), Option.getD_some]
      exact List.getElem_mem _
    have hg := ho.2 _ hm
    rw [hd, cdB_c] at ih
    refine sg192_4 l G _ b _ _ _ ?_
    try simp (disch := omega) only [h.1, wr_s, in_nI, clN, ti_z, ti_l, true_and, and_true, kI, zI, rI, kL, zL, rL, kR, zR, nnI, nnL, nnR, iL, iR, lI, lR, exi, exl, exv, eq_self, nI_add, nI_mul, nI_sub, nI_ltI, nI_leI, nI_eq, q0, q1, q2, q3, q4, q5, q6, q10, q100, br_Tr, br_Fa, iI_s, iI_n, bI_q0, bI_q1, or_true, true_or, not_true_eq_false, not_false_eq_true, nI_l, ge64, Nat.lt_irrefl, Nat.add_sub_cancel, Nat.not_lt_zero, lN_0, lN_1e4, lN_1e6, lN_1e3, lN_add, lN_mul, lN_ltI, lN_leI, lN_eqI, lN_i, lcE, lcLe, lcLt, lN_div, q7, q12, q20, q99, q200, q999, q1e4, if_true, if_false, Nat.le_refl, q8, q11, q16, q18, q32, q44, q48, q57, q59, q97, q122, q900]
    refine d124 h ?_
    try simp (disch := omega) only [h.1, hi, wr_s, in_nI, clN, ti_z, ti_l, true_and, and_true, kI, zI, rI, kL, zL, rL, kR, zR, nnI, nnL, nnR, iL, iR, lI, lR, exi, exl, exv, eq_self, nI_add, nI_mul, nI_sub, nI_ltI, nI_leI, nI_eq, q0, q1, q2, q3, q4, q5, q6, q10, q100, br_Tr, br_Fa, iI_s, iI_n, bI_q0, bI_q1, or_true, true_or, not_true_eq_false, not_false_eq_true, nI_l, ge64, Nat.lt_irrefl, Nat.add_sub_cancel, Nat.not_lt_zero, lN_0, lN_1e4, lN_1e6, lN_1e3, lN_add, lN_mul, lN_ltI, lN_leI, lN_eqI, lN_i, lcE, lcLe, lcLt, lN_div, q7, q12, q20, q99, q200, q999, q1e4, if_true, if_false, Nat.le_refl, q8, q11, q16, q18, q32, q44, q48, q57, q59, q97, q122, q900]
    refine d182 h hi ?_
    generalize w.getD (w.length - 1 - i) 0 = c at ih hg
    rw [lN_32]
    try simp (disch := omega) only [wr_s, in_nI, clN, ti_z, ti_l, true_and, and_true, kI, zI, rI, kL, zL, rL, kR, zR, nnI, nnL, nnR, iL, iR, lI, lR, exi, exl, exv, eq_self, nI_add, nI_mul, nI_sub, nI_ltI, nI_leI, nI_eq, q0, q1, q2, q3, q4, q5, q6, q10, q100, br_Tr, br_Fa, iI_s, iI_n, bI_q0, bI_q1, or_true, true_or, not_true_eq_false, not_false_eq_true, nI_l, ge64, Nat.lt_irrefl, Nat.add_sub_cancel, Nat.not_lt_zero, lN_0, lN_1e4, lN_1e6, lN_1e3, lN_add, lN_mul, lN_ltI, lN_leI, lN_eqI, lN_i, lcE, lcLe, lcLt, lN_div, q7, q12, q20, q99, q200, q999, q1e4, if_true, if_false, Nat.le_refl, q8, q11, q16, q18, q32, q44, q48, q57, q59, q97, q122, q900]
    rw [show c - 96 = c - 97 + 1 by omega] at ih
    exact ih
theorem d74o {x : Int32} {K : ax_M → Prop} (h : MO μ N e) (q : K μ) : ax_CV l G 74 [ax_r (some 332), ax_i x] μ K := by
  refine ax_Ct.of (by decide) (Nat.le_of_ble_eq_true rfl) (sg74_0 l G _ 332 _ _ ?_)
  try simp (disch := omega) only [h.1.all, h.2.1, h.2.2.1.all, h.2.2.2.2.1, show ¬ (5 = 2) by omega, show ¬ (5 = 3) by omega, show ¬ (5 = 4) by omega, show ¬ (5 = 1) by omega, show ¬ (1 = 0) by omega, wr_s, in_nI, clN, ti_z, ti_l, true_and, and_true, kI, zI, rI, kL, zL, rL, kR, zR, nnI, nnL, nnR, iL, iR, lI, lR, exi, exl, exv, eq_self, nI_add, nI_mul, nI_sub, nI_ltI, nI_leI, nI_eq, q0, q1, q2, q3, q4, q5, q6, q10, q100, br_Tr, br_Fa, iI_s, iI_n, bI_q0, bI_q1, or_true, true_or, not_true_eq_false, not_false_eq_true, nI_l, ge64, Nat.lt_irrefl, Nat.add_sub_cancel, Nat.not_lt_zero, lN_0, lN_1e4, lN_1e6, lN_1e3, lN_add, lN_mul, lN_ltI, lN_leI, lN_eqI, lN_i, lcE, lcLe, lcLt, lN_div, q7, q12, q20, q99, q200, q999, q1e4, if_true, if_false, Nat.le_refl, q8, q11, q16, q18, q32, q44, q48, q57, q59, q97, q122, q900]
  exact q
theorem d74 {k : Nat} {K : ax_M → Prop} (h : MR μ N n p s) (hk : 1 ≤ k ∧ k ≤ 6) (q : ∀ μ', FK PX μ μ' → MO μ' N (k, tS s) → K μ') : ax_CV l G 74 [ax_r (some 332), ax_i (nI k)] μ K := by
  have hb := h.bd
  refine ax_Ct.of (by decide) (Nat.le_of_ble_eq_true rfl) (sg74_0 l G _ 332 _ _ ?_)
  try simp (disch := omega) only [h.1.1.all, h.1.2.1, h.2.1, h.2.2.1.2.1, h.2.2.1.2.2.1, h.2.2.2.2.1.1.all, h.cn, h.2.2.2.2.2.1.1, h.2.2.2.2.2.1.2, show ¬ (mkd s.1.1 = 5) by omega, wr_s, in_nI, clN, ti_z, ti_l, true_and, and_true, kI, zI, rI, kL, zL, rL, kR, zR, nnI, nnL, nnR, iL, iR, lI, lR, exi, exl, exv, eq_self, nI_add, nI_mul, nI_sub, nI_ltI, nI_leI, nI_eq, q0, q1, q2, q3, q4, q5, q6, q10, q100, br_Tr, br_Fa, iI_s, iI_n, bI_q0, bI_q1, or_true, true_or, not_true_eq_false, not_false_eq_true, nI_l, ge64, Nat.lt_irrefl, Nat.add_sub_cancel, Nat.not_lt_zero, lN_0, lN_1e4, lN_1e6, lN_1e3, lN_add, lN_mul, lN_ltI, lN_leI, lN_eqI, lN_i, lcE, lcLe, lcLt, lN_div, q7, q12, q20, q99, q200, q999, q1e4, if_true, if_false, Nat.le_refl, q8, q11, q16, q18, q32, q44, q48, q57, q59, q97, q122, q900]
  have f : FK PX μ (sI (sI (sI μ 332 13 (nI k)) 332 14 (nI s.1.2.1)) 332 9 (nI 5)) := (((FK.refl PX _).put ⟨rfl, by omega⟩).put ⟨rfl, by omega⟩).put ⟨rfl, by omega⟩
  refine q _ f ⟨h.1.1.fk f, by rw [f.R]; exact h.2.1.1, h.2.2.2.2.1.1.fk f, ⟨(pM s).1, hb.2.2.2.2.1, ?_⟩, ?_, ?_, ?_, hk⟩
  · rw [f.I (by omega)]; exact h.2.2.2.2.2.1.1
  · try simp (disch := omega) only [wr_s, in_nI, clN, ti_z, ti_l, true_and, and_true, kI, zI, rI, kL, zL, rL, kR, zR, nnI, nnL, nnR, iL, iR, lI, lR, exi, exl, exv, eq_self, nI_add, nI_mul, nI_sub, nI_ltI, nI_leI, nI_eq, q0, q1, q2, q3, q4, q5, q6, q10, q100, br_Tr, br_Fa, iI_s, iI_n, bI_q0, bI_q1, or_true, true_or, not_true_eq_false, not_false_eq_true, nI_l, ge64, Nat.lt_irrefl, Nat.add_sub_cancel, Nat.not_lt_zero, lN_0, lN_1e4, lN_1e6, lN_1e3, lN_add, lN_mul, lN_ltI, lN_leI, lN_eqI, lN_i, lcE, lcLe, lcLt, lN_div, q7, q12, q20, q99, q200, q999, q1e4, if_true, if_false, Nat.le_refl, q8, q11, q16, q18, q32, q44, q48, q57, q59, q97, q122, q900]
  · try simp (disch := omega) only [wr_s, in_nI, clN, ti_z, ti_l, true_and, and_true, kI, zI, rI, kL, zL, rL, kR, zR, nnI, nnL, nnR, iL, iR, lI, lR, exi, exl, exv, eq_self, nI_add, nI_mul, nI_sub, nI_ltI, nI_leI, nI_eq, q0, q1, q2, q3, q4, q5, q6, q10, q100, br_Tr, br_Fa, iI_s, iI_n, bI_q0, bI_q1, or_true, true_or, not_true_eq_false, not_false_eq_true, nI_l, ge64, Nat.lt_irrefl, Nat.add_sub_cancel, Nat.not_lt_zero, lN_0, lN_1e4, lN_1e6, lN_1e3, lN_add, lN_mul, lN_ltI, lN_leI, lN_eqI, lN_i, lcE, lcLe, lcLt, lN_div, q7, q12, q20, q99, q200, q999, q1e4, if_true, if_false, Nat.le_refl, q8, q11, q16, q18, q32, q44, q48, q57, q59, q97, q122, q900]
  · try simp (disch := omega) only [wr_s, in_nI, clN, ti_z, ti_l, true_and, and_true, kI, zI, rI, kL, zL, rL, kR, zR, nnI, nnL, nnR, iL, iR, lI, lR, exi, exl, exv, eq_self, nI_add, nI_mul, nI_sub, nI_ltI, nI_leI, nI_eq, q0, q1, q2, q3, q4, q5, q6, q10, q100, br_Tr, br_Fa, iI_s, iI_n, bI_q0, bI_q1, or_true, true_or, not_true_eq_false, not_false_eq_true, nI_l, ge64, Nat.lt_irrefl, Nat.add_sub_cancel, Nat.not_lt_zero, lN_0, lN_1e4, lN_1e6, lN_1e3, lN_add, lN_mul, lN_ltI, lN_leI, lN_eqI, lN_i, lcE, lcLe, lcLt, lN_div, q7, q12, q20, q99, q200, q999, q1e4, if_true, if_false, Nat.le_refl, q8, q11, q16, q18, q32, q44, q48, q57, q59, q97, q122, q900]
theorem e109 {K : ax_M → Prop} (h : MR μ N n p s) (h5 : tK s ≠ 5) (q : ∀ μ', FK PT μ μ' → MR μ' N n p (ad p n s) → K μ') : ax_CV l G 109 [ax_r (some 332)] μ K := by
  have hb := h.bd
  refine d109 (p := p) (n := n) h.1 hb.2.2.2.1.2.1 (h.2.2.1.1 h5) h.2.2.1.2.1 (by omega) (fun μ' f hk => q μ' f (h.adv f hk))
theorem o109 {K : ax_M → Prop} (h : MO μ N e) (q : K μ) : ax_CV l G 109 [ax_r (some 332)] μ K := d109o h.1 h.2.2.2.2.1 q
theorem sort2 (k : Nat) : (mkd k = 2) = (k = 1) := by
  unfold mkd
  exact propext ⟨fun h => by split at h; omega; split at h; assumption; split at h; omega; split at h <;> omega, fun h => by rw [if_neg (by omega), if_pos h]⟩
theorem sort3 (k : Nat) : (mkd k = 3) = (k = 2) := by
  unfold mkd
  exact propext ⟨fun h => by split at h; omega; split at h; omega; split at h; assumption; split at h <;> omega, fun h => by rw [if_neg (by omega), if_neg (by omega), if_pos h]⟩
theorem sort1 (k : Nat) : (mkd k = 1) = (k = 0) := by
  unfold mkd
  exact propext ⟨fun h => by split at h; assumption; split at h; omega; split at h; omega; split at h <;> omega, fun h => by rw [if_pos h]⟩
theorem sort4 {k : Nat} (hk : k ≤ 5) : (mkd k = 4) = (k = 3 ∨ k = 4) := by
  unfold mkd
  exact propext ⟨fun h => by split at h; omega; split at h; omega; split at h; omega; split at h <;> omega, fun h => by rw [if_neg (by omega), if_neg (by omega), if_neg (by omega), if_neg (by omega)]⟩
theorem d201o {b : Nat} {K : Int32 → ax_M → Prop} (h : MO μ N e) (q : K (nI 0) μ) : ax_CI l G 201 [ax_r (some 332), ax_r (some b)] μ K := by
  refine ax_Ct.of (by decide) (Nat.le_of_ble_eq_true rfl) (sg201_0 l G _ 332 b _ ?_)
  try simp (disch := omega) only [h.1.all, h.2.1, h.2.2.1.all, h.2.2.2.2.1, show ¬ (5 = 2) by omega, show ¬ (5 = 3) by omega, show ¬ (5 = 4) by omega, show ¬ (5 = 1) by omega, show ¬ (1 = 0) by omega, wr_s, in_nI, clN, ti_z, ti_l, true_and, and_true, kI, zI, rI, kL, zL, rL, kR, zR, nnI, nnL, nnR, iL, iR, lI, lR, exi, exl, exv, eq_self, nI_add, nI_mul, nI_sub, nI_ltI, nI_leI, nI_eq, q0, q1, q2, q3, q4, q5, q6, q10, q100, br_Tr, br_Fa, iI_s, iI_n, bI_q0, bI_q1, or_true, true_or, not_true_eq_false, not_false_eq_true, nI_l, ge64, Nat.lt_irrefl, Nat.add_sub_cancel, Nat.not_lt_zero, lN_0, lN_1e4, lN_1e6, lN_1e3, lN_add, lN_mul, lN_ltI, lN_leI, lN_eqI, lN_i, lcE, lcLe, lcLt, lN_div, q7, q12, q20, q99, q200, q999, q1e4, if_true, if_false, Nat.le_refl, q8, q11, q16, q18, q32, q44, q48, q57, q59, q97, q122, q900]
  exact q
theorem d201 {b : Nat} {w : List Nat} {K : Int32 → ax_M → Prop} (hG : isStr (ax_0 G) b w) (hb : b + 28 < 64) (hw : okW w) (hw0 : w ≠ []) (h : MR μ N n p s) (q : K (bI (decide (tW s = w))) μ) : ax_CI l G 201 [ax_r (some 332), ax_r (some b)] μ K := by
  have hbd := h.bd
  refine ax_Ct.of (by decide) (Nat.le_of_ble_eq_true rfl) (sg201_0 l G _ 332 b _ ?_)
  try simp (disch := omega) only [h.1.1.all, h.1.2.1, h.2.1, h.2.2.1.2.1, h.2.2.1.2.2.1, h.2.2.2.2.1.1.all, h.cn, h.2.2.2.2.2.1.1, h.2.2.2.2.2.1.2, wr_s, in_nI, clN, ti_z, ti_l, true_and, and_true, kI, zI, rI, kL, zL, rL, kR, zR, nnI, nnL, nnR, iL, iR, lI, lR, exi, exl, exv, eq_self, nI_add, nI_mul, nI_sub, nI_ltI, nI_leI, nI_eq, q0, q1, q2, q3, q4, q5, q6, q10, q100, br_Tr, br_Fa, iI_s, iI_n, bI_q0, bI_q1, or_true, true_or, not_true_eq_false, not_false_eq_true, nI_l, ge64, Nat.lt_irrefl, Nat.add_sub_cancel, Nat.not_lt_zero, lN_0, lN_1e4, lN_1e6, lN_1e3, lN_add, lN_mul, lN_ltI, lN_leI, lN_eqI, lN_i, lcE, lcLe, lcLt, lN_div, q7, q12, q20, q99, q200, q999, q1e4, if_true, if_false, Nat.le_refl, q8, q11, q16, q18, q32, q44, q48, q57, q59, q97, q122, q900]
  rw [sort2]
  refine ax_brc (fun c => ?_) (fun c => ?_)
  · refine d192 hG hb ?_
    rw [h.2.2.1.2.2.2.2.2.2 c]
    try simp (disch := omega) only [wr_s, in_nI, clN, ti_z, ti_l, true_and, and_true, kI, zI, rI, kL, zL, rL, kR, zR, nnI, nnL, nnR, iL, iR, lI, lR, exi, exl, exv, eq_self, nI_add, nI_mul, nI_sub, nI_ltI, nI_leI, nI_eq, q0, q1, q2, q3, q4, q5, q6, q10, q100, br_Tr, br_Fa, iI_s, iI_n, bI_q0, bI_q1, or_true, true_or, not_true_eq_false, not_false_eq_true, nI_l, ge64, Nat.lt_irrefl, Nat.add_sub_cancel, Nat.not_lt_zero, lN_0, lN_1e4, lN_1e6, lN_1e3, lN_add, lN_mul, lN_ltI, lN_leI, lN_i, lcE, lcLe, lcLt, lN_div, q7, q12, q20, q99, q200, q999, q1e4, if_true, if_false, Nat.le_refl, q8, q11, q16, q18, q32, q44, q48, q57, q59, q97, q122, q900]
    rw [h.w.eq32 hw]
    refine ax_brc (fun e => ?_) (fun e => ?_)
    · rw [decide_eq_true e] at q; exact q
    · rw [decide_eq_false e] at q; exact q
  · have : tW s = [] := h.2.2.2.1.2.2.2.2.2.1 c
    rw [decide_eq_false (fun e => hw0 (e.symm.trans this))] at q
    exact q
theorem f201 {b : Nat} {K : Int32 → ax_M → Prop} (hG : GC G) (hb : 7 ≤ b) (hb2 : b < 35) (h : MR μ N n p s) (q : K (bI (decide (tW s = sW b))) μ) : ax_CI l G 201 [ax_r (some 332), ax_r (some b)] μ K :=
  d201 (hG.2 b hb hb2) (by omega) (sW_ok b hb hb2).1 (sW_ok b hb hb2).2 h q
theorem d217o {K : Int32 → ax_M → Prop} (h : MO μ N e) (q : K (nI 0) μ) : ax_CI l G 217 [ax_r (some 332)] μ K := by
  refine ax_Ct.of (by decide) (Nat.le_of_ble_eq_true rfl) (sg217_0 l G _ 332 _ ?_)
  try simp (disch := omega) only [h.1.all, h.2.1, h.2.2.1.all, h.2.2.2.2.1, show ¬ (5 = 2) by omega, show ¬ (5 = 3) by omega, show ¬ (5 = 4) by omega, show ¬ (5 = 1) by omega, show ¬ (1 = 0) by omega, wr_s, in_nI, clN, ti_z, ti_l, true_and, and_true, kI, zI, rI, kL, zL, rL, kR, zR, nnI, nnL, nnR, iL, iR, lI, lR, exi, exl, exv, eq_self, nI_add, nI_mul, nI_sub, nI_ltI, nI_leI, nI_eq, q0, q1, q2, q3, q4, q5, q6, q10, q100, br_Tr, br_Fa, iI_s, iI_n, bI_q0, bI_q1, or_true, true_or, not_true_eq_false, not_false_eq_true, nI_l, ge64, Nat.lt_irrefl, Nat.add_sub_cancel, Nat.not_lt_zero, lN_0, lN_1e4, lN_1e6, lN_1e3, lN_add, lN_mul, lN_ltI, lN_leI, lN_eqI, lN_i, lcE, lcLe, lcLt, lN_div, q7, q12, q20, q99, q200, q999, q1e4, if_true, if_false, Nat.le_refl, q8, q11, q16, q18, q32, q44, q48, q57, q59, q97, q122, q900]
  exact q
theorem d217 {K : Int32 → ax_M → Prop} (hG : GC G) (h : MR μ N n p s) (q : K (bI (isNm s)) μ) : ax_CI l G 217 [ax_r (some 332)] μ K := by
  have hbd := h.bd
  unfold isNm at q
  refine ax_Ct.of (by decide) (Nat.le_of_ble_eq_true rfl) (sg217_0 l G _ 332 _ ?_)
  try simp (disch := omega) only [h.1.1.all, h.1.2.1, h.2.1, h.2.2.1.2.1, h.2.2.1.2.2.1, h.2.2.2.2.1.1.all, h.cn, h.2.2.2.2.2.1.1, h.2.2.2.2.2.1.2, wr_s, in_nI, clN, ti_z, ti_l, true_and, and_true, kI, zI, rI, kL, zL, rL, kR, zR, nnI, nnL, nnR, iL, iR, lI, lR, exi, exl, exv, eq_self, nI_add, nI_mul, nI_sub, nI_ltI, nI_leI, nI_eq, q0, q1, q2, q3, q4, q5, q6, q10, q100, br_Tr, br_Fa, iI_s, iI_n, bI_q0, bI_q1, or_true, true_or, not_true_eq_false, not_false_eq_true, nI_l, ge64, Nat.lt_irrefl, Nat.add_sub_cancel, Nat.not_lt_zero, lN_0, lN_1e4, lN_1e6, lN_1e3, lN_add, lN_mul, lN_ltI, lN_leI, lN_eqI, lN_i, lcE, lcLe, lcLt, lN_div, q7, q12, q20, q99, q200, q999, q1e4, if_true, if_false, Nat.le_refl, q8, q11, q16, q18, q32, q44, q48, q57, q59, q97, q122, q900]
  rw [sort2]
  refine ax_brc (fun c => ?_) (fun c => ?_)
  · rw [show decide (tK s = 1) = true from decide_eq_true c, Bool.and_true] at q
    have no : ∀ i, i < 8 → tW s = sW (7 + i) → K (nI 0) μ := fun i hi e => by rw [anyN_t hi (decide_eq_true e)] at q; exact q
    refine f201 hG (b := 7) (by omega) (by omega) h ?_
    try simp (disch := omega) only [h.1.1.all, h.1.2.1, h.2.1, h.2.2.1.2.1, h.2.2.1.2.2.1, h.2.2.2.2.1.1.all, h.cn, h.2.2.2.2.2.1.1, h.2.2.2.2.2.1.2, wr_s, in_nI, clN, ti_z, ti_l, true_and, and_true, kI, zI, rI, kL, zL, rL, kR, zR, nnI, nnL, nnR, iL, iR, lI, lR, exi, exl, exv, eq_self, nI_add, nI_mul, nI_sub, nI_ltI, nI_leI, nI_eq, q0, q1, q2, q3, q4, q5, q6, q10, q100, br_Tr, br_Fa, iI_s, iI_n, bI_q0, bI_q1, or_true, true_or, not_true_eq_false, not_false_eq_true, nI_l, ge64, Nat.lt_irrefl, Nat.add_sub_cancel, Nat.not_lt_zero, lN_0, lN_1e4, lN_1e6, lN_1e3, lN_add, lN_mul, lN_ltI, lN_leI, lN_eqI, lN_i, lcE, lcLe, lcLt, lN_div, q7, q12, q20, q99, q200, q999, q1e4, if_true, if_false, Nat.le_refl, q8, q11, q16, q18, q32, q44, q48, q57, q59, q97, q122, q900]
    refine ax_brc (fun e0 => ?_) (fun e0 => no 0 (by omega) (by simpa using e0))
    refine f201 hG (b := 8) (by omega) (by omega) h ?_
    try simp (disch := omega) only [h.1.1.all, h.1.2.1, h.2.1, h.2.2.1.2.1, h.2.2.1.2.2.1, h.2.2.2.2.1.1.all, h.cn, h.2.2.2.2.2.1.1, h.2.2.2.2.2.1.2, wr_s, in_nI, clN, ti_z, ti_l, true_and, and_true, kI, zI, rI, kL, zL, rL, kR, zR, nnI, nnL, nnR, iL, iR, lI, lR, exi, exl, exv, eq_self, nI_add, nI_mul, nI_sub, nI_ltI, nI_leI, nI_eq, q0, q1, q2, q3, q4, q5, q6, q10, q100, br_Tr, br_Fa, iI_s, iI_n, bI_q0, bI_q1, or_true, true_or, not_true_eq_false, not_false_eq_true, nI_l, ge64, Nat.lt_irrefl, Nat.add_sub_cancel, Nat.not_lt_zero, lN_0, lN_1e4, lN_1e6, lN_1e3, lN_add, lN_mul, lN_ltI, lN_leI, lN_eqI, lN_i, lcE, lcLe, lcLt, lN_div, q7, q12, q20, q99, q200, q999, q1e4, if_true, if_false, Nat.le_refl, q8, q11, q16, q18, q32, q44, q48, q57, q59, q97, q122, q900]
    refine ax_brc (fun e1 => ?_) (fun e1 => no 1 (by omega) (by simpa using e1))
    refine f201 hG (b := 9) (by omega) (by omega) h ?_
    try simp (disch := omega) only [h.1.1.all, h.1.2.1, h.2.1, h.2.2.1.2.1, h.2.2.1.2.2.1, h.2.2.2.2.1.1.all, h.cn, h.2.2.2.2.2.1.1, h.2.2.2.2.2.1.2, wr_s, in_nI, clN, ti_z, ti_l, true_and, and_true, kI, zI, rI, kL, zL, rL, kR, zR, nnI, nnL, nnR, iL, iR, lI, lR, exi, exl, exv, eq_self, nI_add, nI_mul, nI_sub, nI_ltI, nI_leI, nI_eq, q0, q1, q2, q3, q4, q5, q6, q10, q100, br_Tr, br_Fa, iI_s, iI_n, bI_q0, bI_q1, or_true, true_or, not_true_eq_false, not_false_eq_true, nI_l, ge64, Nat.lt_irrefl, Nat.add_sub_cancel, Nat.not_lt_zero, lN_0, lN_1e4, lN_1e6, lN_1e3, lN_add, lN_mul, lN_ltI, lN_leI, lN_eqI, lN_i, lcE, lcLe, lcLt, lN_div, q7, q12, q20, q99, q200, q999, q1e4, if_true, if_false, Nat.le_refl, q8, q11, q16, q18, q32, q44, q48, q57, q59, q97, q122, q900]
    refine ax_brc (fun e2 => ?_) (fun e2 => no 2 (by omega) (by simpa using e2))
    refine f201 hG (b := 10) (by omega) (by omega) h ?_
    try simp (disch := omega) only [h.1.1.all, h.1.2.1, h.2.1, h.2.2.1.2.1, h.2.2.1.2.2.1, h.2.2.2.2.1.1.all, h.cn, h.2.2.2.2.2.1.1, h.2.2.2.2.2.1.2, wr_s, in_nI, clN, ti_z, ti_l, true_and, and_true, kI, zI, rI, kL, zL, rL, kR, zR, nnI, nnL, nnR, iL, iR, lI, lR, exi, exl, exv, eq_self, nI_add, nI_mul, nI_sub, nI_ltI, nI_leI, nI_eq, q0, q1, q2, q3, q4, q5, q6, q10, q100, br_Tr, br_Fa, iI_s, iI_n, bI_q0, bI_q1, or_true, true_or, not_true_eq_false, not_false_eq_true, nI_l, ge64, Nat.lt_irrefl, Nat.add_sub_cancel, Nat.not_lt_zero, lN_0, lN_1e4, lN_1e6, lN_1e3, lN_add, lN_mul, lN_ltI, lN_leI, lN_eqI, lN_i, lcE, lcLe, lcLt, lN_div, q7, q12, q20, q99, q200, q999, q1e4, if_true, if_false, Nat.le_refl, q8, q11, q16, q18, q32, q44, q48, q57, q59, q97, q122, q900]
    refine ax_brc (fun e3 => ?_) (fun e3 => no 3 (by omega) (by simpa using e3))
    refine f201 hG (b := 11) (by omega) (by omega) h ?_
    try simp (disch := omega) only [h.1.1.all, h.1.2.1, h.2.1, h.2.2.1.2.1, h.2.2.1.2.2.1, h.2.2.2.2.1.1.all, h.cn, h.2.2.2.2.2.1.1, h.2.2.2.2.2.1.2, wr_s, in_nI, clN, ti_z, ti_l, true_and, and_true, kI, zI, rI, kL, zL, rL, kR, zR, nnI, nnL, nnR, iL, iR, lI, lR, exi, exl, exv, eq_self, nI_add, nI_mul, nI_sub, nI_ltI, nI_leI, nI_eq, q0, q1, q2, q3, q4, q5, q6, q10, q100, br_Tr, br_Fa, iI_s, iI_n, bI_q0, bI_q1, or_true, true_or, not_true_eq_false, not_false_eq_true, nI_l, ge64, Nat.lt_irrefl, Nat.add_sub_cancel, Nat.not_lt_zero, lN_0, lN_1e4, lN_1e6, lN_1e3, lN_add, lN_mul, lN_ltI, lN_leI, lN_eqI, lN_i, lcE, lcLe, lcLt, lN_div, q7, q12, q20, q99, q200, q999, q1e4, if_true, if_false, Nat.le_refl, q8, q11, q16, q18, q32, q44, q48, q57, q59, q97, q122, q900]
    refine ax_brc (fun e4 => ?_) (fun e4 => no 4 (by omega) (by simpa using e4))
    refine f201 hG (b := 12) (by omega) (by omega) h ?_
    try simp (disch := omega) only [h.1.1.all, h.1.2.1, h.2.1, h.2.2.1.2.1, h.2.2.1.2.2.1, h.2.2.2.2.1.1.all, h.cn, h.2.2.2.2.2.1.1, h.2.2.2.2.2.1.2, wr_s, in_nI, clN, ti_z, ti_l, true_and, and_true, kI, zI, rI, kL, zL, rL, kR, zR, nnI, nnL, nnR, iL, iR, lI, lR, exi, exl, exv, eq_self, nI_add, nI_mul, nI_sub, nI_ltI, nI_leI, nI_eq, q0, q1, q2, q3, q4, q5, q6, q10, q100, br_Tr, br_Fa, iI_s, iI_n, bI_q0, bI_q1, or_true, true_or, not_true_eq_false, not_false_eq_true, nI_l, ge64, Nat.lt_irrefl, Nat.add_sub_cancel, Nat.not_lt_zero, lN_0, lN_1e4, lN_1e6, lN_1e3, lN_add, lN_mul, lN_ltI, lN_leI, lN_eqI, lN_i, lcE, lcLe, lcLt, lN_div, q7, q12, q20, q99, q200, q999, q1e4, if_true, if_false, Nat.le_refl, q8, q11, q16, q18, q32, q44, q48, q57, q59, q97, q122, q900]
    refine ax_brc (fun e5 => ?_) (fun e5 => no 5 (by omega) (by simpa using e5))
    refine f201 hG (b := 13) (by omega) (by omega) h ?_
    try simp (disch := omega) only [h.1.1.all, h.1.2.1, h.2.1, h.2.2.1.2.1, h.2.2.1.2.2.1, h.2.2.2.2.1.1.all, h.cn, h.2.2.2.2.2.1.1, h.2.2.2.2.2.1.2, wr_s, in_nI, clN, ti_z, ti_l, true_and, and_true, kI, zI, rI, kL, zL, rL, kR, zR, nnI, nnL, nnR, iL, iR, lI, lR, exi, exl, exv, eq_self, nI_add, nI_mul, nI_sub, nI_ltI, nI_leI, nI_eq, q0, q1, q2, q3, q4, q5, q6, q10, q100, br_Tr, br_Fa, iI_s, iI_n, bI_q0, bI_q1, or_true, true_or, not_true_eq_false, not_false_eq_true, nI_l, ge64, Nat.lt_irrefl, Nat.add_sub_cancel, Nat.not_lt_zero, lN_0, lN_1e4, lN_1e6, lN_1e3, lN_add, lN_mul, lN_ltI, lN_leI, lN_eqI, lN_i, lcE, lcLe, lcLt, lN_div, q7, q12, q20, q99, q200, q999, q1e4, if_true, if_false, Nat.le_refl, q8, q11, q16, q18, q32, q44, q48, q57, q59, q97, q122, q900]
    refine ax_brc (fun e6 => ?_) (fun e6 => no 6 (by omega) (by simpa using e6))
    refine f201 hG (b := 14) (by omega) (by omega) h ?_
    try simp (disch := omega) only [h.1.1.all, h.1.2.1, h.2.1, h.2.2.1.2.1, h.2.2.1.2.2.1, h.2.2.2.2.1.1.all, h.cn, h.2.2.2.2.2.1.1, h.2.2.2.2.2.1.2, wr_s, in_nI, clN, ti_z, ti_l, true_and, and_true, kI, zI, rI, kL, zL, rL, kR, zR, nnI, nnL, nnR, iL, iR, lI, lR, exi, exl, exv, eq_self, nI_add, nI_mul, nI_sub, nI_ltI, nI_leI, nI_eq, q0, q1, q2, q3, q4, q5, q6, q10, q100, br_Tr, br_Fa, iI_s, iI_n, bI_q0, bI_q1, or_true, true_or, not_true_eq_false, not_false_eq_true, nI_l, ge64, Nat.lt_irrefl, Nat.add_sub_cancel, Nat.not_lt_zero, lN_0, lN_1e4, lN_1e6, lN_1e3, lN_add, lN_mul, lN_ltI, lN_leI, lN_eqI, lN_i, lcE, lcLe, lcLt, lN_div, q7, q12, q20, q99, q200, q999, q1e4, if_true, if_false, Nat.le_refl, q8, q11, q16, q18, q32, q44, q48, q57, q59, q97, q122, q900]
    refine ax_brc (fun e7 => ?_) (fun e7 => no 7 (by omega) (by simpa using e7))
    rw [anyN_f (fun i hi => ?_)] at q
    · exact q
    · rcases (show i = 0 ∨ i = 1 ∨ i = 2 ∨ i = 3 ∨ i = 4 ∨ i = 5 ∨ i = 6 ∨ i = 7 by omega) with rfl | rfl | rfl | rfl | rfl | rfl | rfl | rfl
      · exact e0
      · exact e1
      · exact e2
      · exact e3
      · exact e4
      · exact e5
      · exact e6
      · exact e7
  · rw [show decide (tK s = 1) = false from decide_eq_false c, Bool.and_false] at q
    exact q
def MV (μ : ax_M) (v : Int32) (N n : Nat) (p : Nat → Nat) (x : Rs (Nat × PS)) : Prop := match x with
  | .inl e => MO μ N e
  | .inr r => v = nI r.1 ∧ MR μ N n p r.2
def MQ1 (μ : ax_M) (N n : Nat) (p : Nat → Nat) (x : Rs PS) : Prop := match x with
  | .inl e => MO μ N e
  | .inr r => MR μ N n p r
theorem d149o {x : Int32} {K : Int32 → ax_M → Prop} (h : MO μ N e) (q : K (nI 0) μ) : ax_CI l G 149 [ax_r (some 332), ax_i x] μ K := by
  refine ax_Ct.of (by decide) (Nat.le_of_ble_eq_true rfl) (sg149_0 l G _ 332 _ _ ?_)
  try simp (disch := omega) only [h.1.all, h.2.1, h.2.2.1.all, h.2.2.2.2.1, show ¬ (5 = 2) by omega, show ¬ (5 = 3) by omega, show ¬ (5 = 4) by omega, show ¬ (5 = 1) by omega, show ¬ (1 = 0) by omega, wr_s, in_nI, clN, ti_z, ti_l, true_and, and_true, kI, zI, rI, kL, zL, rL, kR, zR, nnI, nnL, nnR, iL, iR, lI, lR, exi, exl, exv, eq_self, nI_add, nI_mul, nI_sub, nI_ltI, nI_leI, nI_eq, q0, q1, q2, q3, q4, q5, q6, q10, q100, br_Tr, br_Fa, iI_s, iI_n, bI_q0, bI_q1, or_true, true_or, not_true_eq_false, not_false_eq_true, nI_l, ge64, Nat.lt_irrefl, Nat.add_sub_cancel, Nat.not_lt_zero, lN_0, lN_1e4, lN_1e6, lN_1e3, lN_add, lN_mul, lN_ltI, lN_leI, lN_eqI, lN_i, lcE, lcLe, lcLt, lN_div, q7, q12, q20, q99, q200, q999, q1e4, if_true, if_false, Nat.le_refl, q8, q11, q16, q18, q32, q44, q48, q57, q59, q97, q122, q900]
  exact q
theorem d149 {k c : Nat} {K : Int32 → ax_M → Prop} (h : MR μ N n p s) (hk : (k = 3 ∧ c = 59) ∨ (k = 4 ∧ c = 44)) (r1 : tK s = k → ∀ μ', FK PX μ μ' → MR μ' N n p (ad p n s) → K (nI 1) μ') (r0 : tK s ≠ k → K (nI 0) μ) : ax_CI l G 149 [ax_r (some 332), ax_i (nI c)] μ K := by
  have hbd := h.bd
  have hm3 := h.2.2.1.2.2.2.1
  have hm4 := h.2.2.1.2.2.2.2.1
  refine ax_Ct.of (by decide) (Nat.le_of_ble_eq_true rfl) (sg149_0 l G _ 332 _ _ ?_)
  try simp (disch := omega) only [h.1.1.all, h.1.2.1, h.2.1, h.2.2.1.2.1, h.2.2.1.2.2.1, h.2.2.2.2.1.1.all, h.cn, h.2.2.2.2.2.1.1, h.2.2.2.2.2.1.2, show ¬ (1 = 0) by omega, wr_s, in_nI, clN, ti_z, ti_l, true_and, and_true, kI, zI, rI, kL, zL, rL, kR, zR, nnI, nnL, nnR, iL, iR, lI, lR, exi, exl, exv, eq_self, nI_add, nI_mul, nI_sub, nI_ltI, nI_leI, nI_eq, q0, q1, q2, q3, q4, q5, q6, q10, q100, br_Tr, br_Fa, iI_s, iI_n, bI_q0, bI_q1, or_true, true_or, not_true_eq_false, not_false_eq_true, nI_l, ge64, Nat.lt_irrefl, Nat.add_sub_cancel, Nat.not_lt_zero, lN_0, lN_1e4, lN_1e6, lN_1e3, lN_add, lN_mul, lN_ltI, lN_leI, lN_eqI, lN_i, lcE, lcLe, lcLt, lN_div, q7, q12, q20, q99, q200, q999, q1e4, if_true, if_false, Nat.le_refl, q8, q11, q16, q18, q32, q44, q48, q57, q59, q97, q122, q900]
  rw [sort4 hbd.2.2.2.1.2.2.1]
  refine ax_brc (fun c1 => ?_) (fun c1 => r0 (by show s.1.1 ≠ k; omega))
  have fin : tK s = k → ax_CV l G 109 [ax_r (some 332)] μ (fun m1 => K (nI 1) m1) := fun e => e109 h (by rw [e]; omega) (fun μ' f hh => r1 e μ' (f.mono (fun b k q => ⟨q.1, q.2.1⟩)) hh)
  rcases c1 with c1 | c1
  · rw [hm3 c1]
    try simp (disch := omega) only [wr_s, in_nI, clN, ti_z, ti_l, true_and, and_true, kI, zI, rI, kL, zL, rL, kR, zR, nnI, nnL, nnR, iL, iR, lI, lR, exi, exl, exv, eq_self, nI_add, nI_mul, nI_sub, nI_ltI, nI_leI, nI_eq, q0, q1, q2, q3, q4, q5, q6, q10, q100, br_Tr, br_Fa, iI_s, iI_n, bI_q0, bI_q1, or_true, true_or, not_true_eq_false, not_false_eq_true, nI_l, ge64, Nat.lt_irrefl, Nat.add_sub_cancel, Nat.not_lt_zero, lN_0, lN_1e4, lN_1e6, lN_1e3, lN_add, lN_mul, lN_ltI, lN_leI, lN_eqI, lN_i, lcE, lcLe, lcLt, lN_div, q7, q12, q20, q99, q200, q999, q1e4, if_true, if_false, Nat.le_refl, q8, q11, q16, q18, q32, q44, q48, q57, q59, q97, q122, q900]
    rcases hk with ⟨k1, k2⟩ | ⟨k1, k2⟩
    · exact ax_brt k2.symm (fin (c1.trans k1.symm))
    · exact ax_brf (by omega) (r0 (by show s.1.1 ≠ k; omega))
  · rw [hm4 c1]
    try simp (disch := omega) only [wr_s, in_nI, clN, ti_z, ti_l, true_and, and_true, kI, zI, rI, kL, zL, rL, kR, zR, nnI, nnL, nnR, iL, iR, lI, lR, exi, exl, exv, eq_self, nI_add, nI_mul, nI_sub, nI_ltI, nI_leI, nI_eq, q0, q1, q2, q3, q4, q5, q6, q10, q100, br_Tr, br_Fa, iI_s, iI_n, bI_q0, bI_q1, or_true, true_or, not_true_eq_false, not_false_eq_true, nI_l, ge64, Nat.lt_irrefl, Nat.add_sub_cancel, Nat.not_lt_zero, lN_0, lN_1e4, lN_1e6, lN_1e3, lN_add, lN_mul, lN_ltI, lN_leI, lN_eqI, lN_i, lcE, lcLe, lcLt, lN_div, q7, q12, q20, q99, q200, q999, q1e4, if_true, if_false, Nat.le_refl, q8, q11, q16, q18, q32, q44, q48, q57, q59, q97, q122, q900]
    rcases hk with ⟨k1, k2⟩ | ⟨k1, k2⟩
    · exact ax_brf (by omega) (r0 (by show s.1.1 ≠ k; omega))
    · exact ax_brt k2.symm (fin (c1.trans k1.symm))
theorem d57r {x lo hi : Nat} {K : Int32 → ax_M → Prop} (hx : x < 2 ^ 31) (hl : lo < 2 ^ 31) (hh : hi < 2 ^ 31) (q : K (bI (decide (lo ≤ x ∧ x ≤ hi))) μ) : ax_CI l G 57 [ax_i (nI x), ax_i (nI lo), ax_i (nI hi)] μ K := by
  refine ax_Ct.of (by decide) (Nat.le_of_ble_eq_true rfl) (sg57_0 l G _ _ _ _ _ ?_)
  try simp (disch := omega) only [wr_s, in_nI, clN, ti_z, ti_l, true_and, and_true, kI, zI, rI, kL, zL, rL, kR, zR, nnI, nnL, nnR, iL, iR, lI, lR, exi, exl, exv, eq_self, nI_add, nI_mul, nI_sub, nI_ltI, nI_leI, nI_eq, q0, q1, q2, q3, q4, q5, q6, q10, q100, br_Tr, br_Fa, iI_s, iI_n, bI_q0, bI_q1, or_true, true_or, not_true_eq_false, not_false_eq_true, nI_l, ge64, Nat.lt_irrefl, Nat.add_sub_cancel, Nat.not_lt_zero, lN_0, lN_1e4, lN_1e6, lN_1e3, lN_add, lN_mul, lN_ltI, lN_leI, lN_eqI, lN_i, lcE, lcLe, lcLt, lN_div, q7, q12, q20, q99, q200, q999, q1e4, if_true, if_false, Nat.le_refl, q8, q11, q16, q18, q32, q44, q48, q57, q59, q97, q122, q900]
  refine ax_brc (fun c => ?_) (fun c => ax_brc (fun c2 => ?_) (fun c2 => ?_))
  · rw [decide_eq_false (by omega)] at q; exact q
  · rw [decide_eq_true (by omega)] at q; exact q
  · rw [decide_eq_false (by omega)] at q; exact q
theorem d156o {x y : Int32} {K : Int32 → ax_M → Prop} (h : MO μ N e) (q : ∀ v, K v μ) : ax_CI l G 156 [ax_r (some 332), ax_i x, ax_i y] μ K := by
  refine ax_Ct.of (by decide) (Nat.le_of_ble_eq_true rfl) (sg156_0 l G _ 332 _ _ _ ?_)
  try simp (disch := omega) only [h.1.all, h.2.1, h.2.2.1.all, h.2.2.2.2.1, show ¬ (5 = 2) by omega, show ¬ (5 = 3) by omega, show ¬ (5 = 4) by omega, show ¬ (5 = 1) by omega, show ¬ (1 = 0) by omega, wr_s, in_nI, clN, ti_z, ti_l, true_and, and_true, kI, zI, rI, kL, zL, rL, kR, zR, nnI, nnL, nnR, iL, iR, lI, lR, exi, exl, exv, eq_self, nI_add, nI_mul, nI_sub, nI_ltI, nI_leI, nI_eq, q0, q1, q2, q3, q4, q5, q6, q10, q100, br_Tr, br_Fa, iI_s, iI_n, bI_q0, bI_q1, or_true, true_or, not_true_eq_false, not_false_eq_true, nI_l, ge64, Nat.lt_irrefl, Nat.add_sub_cancel, Nat.not_lt_zero, lN_0, lN_1e4, lN_1e6, lN_1e3, lN_add, lN_mul, lN_ltI, lN_leI, lN_eqI, lN_i, lcE, lcLe, lcLt, lN_div, q7, q12, q20, q99, q200, q999, q1e4, if_true, if_false, Nat.le_refl, q8, q11, q16, q18, q32, q44, q48, q57, q59, q97, q122, q900]
  refine d74o h ?_
  try simp (disch := omega) only [h.1.all, h.2.1, h.2.2.1.all, h.2.2.2.2.1, show ¬ (5 = 2) by omega, show ¬ (5 = 3) by omega, show ¬ (5 = 4) by omega, show ¬ (5 = 1) by omega, show ¬ (1 = 0) by omega, wr_s, in_nI, clN, ti_z, ti_l, true_and, and_true, kI, zI, rI, kL, zL, rL, kR, zR, nnI, nnL, nnR, iL, iR, lI, lR, exi, exl, exv, eq_self, nI_add, nI_mul, nI_sub, nI_ltI, nI_leI, nI_eq, q0, q1, q2, q3, q4, q5, q6, q10, q100, br_Tr, br_Fa, iI_s, iI_n, bI_q0, bI_q1, or_true, true_or, not_true_eq_false, not_false_eq_true, nI_l, ge64, Nat.lt_irrefl, Nat.add_sub_cancel, Nat.not_lt_zero, lN_0, lN_1e4, lN_1e6, lN_1e3, lN_add, lN_mul, lN_ltI, lN_leI, lN_eqI, lN_i, lcE, lcLe, lcLt, lN_div, q7, q12, q20, q99, q200, q999, q1e4, if_true, if_false, Nat.le_refl, q8, q11, q16, q18, q32, q44, q48, q57, q59, q97, q122, q900]
  refine o109 h ?_
  exact q _
theorem d156 {lo hi : Nat} {K : Int32 → ax_M → Prop} (h : MR μ N n p s) (hl : lo ≤ 999) (hh : hi ≤ 999) (q : ∀ μ' v, FK PX μ μ' → MV μ' v N n p (tWh p n lo hi s) → K v μ') : ax_CI l G 156 [ax_r (some 332), ax_i (nI lo), ax_i (nI hi)] μ K := by
  have hbd := h.bd
  unfold tWh at q
  refine ax_Ct.of (by decide) (Nat.le_of_ble_eq_true rfl) (sg156_0 l G _ 332 _ _ _ ?_)
  try simp (disch := omega) only [h.1.1.all, h.1.2.1, h.2.1, h.2.2.1.2.1, h.2.2.1.2.2.1, h.2.2.2.2.1.1.all, h.cn, h.2.2.2.2.2.1.1, h.2.2.2.2.2.1.2, wr_s, in_nI, clN, ti_z, ti_l, true_and, and_true, kI, zI, rI, kL, zL, rL, kR, zR, nnI, nnL, nnR, iL, iR, lI, lR, exi, exl, exv, eq_self, nI_add, nI_mul, nI_sub, nI_ltI, nI_leI, nI_eq, q0, q1, q2, q3, q4, q5, q6, q10, q100, br_Tr, br_Fa, iI_s, iI_n, bI_q0, bI_q1, or_true, true_or, not_true_eq_false, not_false_eq_true, nI_l, ge64, Nat.lt_irrefl, Nat.add_sub_cancel, Nat.not_lt_zero, lN_0, lN_1e4, lN_1e6, lN_1e3, lN_add, lN_mul, lN_ltI, lN_leI, lN_eqI, lN_i, lcE, lcLe, lcLt, lN_div, q7, q12, q20, q99, q200, q999, q1e4, if_true, if_false, Nat.le_refl, q8, q11, q16, q18, q32, q44, q48, q57, q59, q97, q122, q900]
  rw [sort3]
  refine ax_brc (fun c => ?_) (fun c => ?_)
  · rw [if_pos c] at q
    rw [h.2.2.1.2.2.2.2.2.1 c]
    refine d57r (by omega) (by omega) (by omega) ?_
    try simp (disch := omega) only [h.1.1.all, h.1.2.1, h.2.1, h.2.2.1.2.1, h.2.2.1.2.2.1, h.2.2.2.2.1.1.all, h.cn, h.2.2.2.2.2.1.1, h.2.2.2.2.2.1.2, wr_s, in_nI, clN, ti_z, ti_l, true_and, and_true, kI, zI, rI, kL, zL, rL, kR, zR, nnI, nnL, nnR, iL, iR, lI, lR, exi, exl, exv, eq_self, nI_add, nI_mul, nI_sub, nI_ltI, nI_leI, nI_eq, q0, q1, q2, q3, q4, q5, q6, q10, q100, br_Tr, br_Fa, iI_s, iI_n, bI_q0, bI_q1, or_true, true_or, not_true_eq_false, not_false_eq_true, nI_l, ge64, Nat.lt_irrefl, Nat.add_sub_cancel, Nat.not_lt_zero, lN_0, lN_1e4, lN_1e6, lN_1e3, lN_add, lN_mul, lN_ltI, lN_leI, lN_eqI, lN_i, lcE, lcLe, lcLt, lN_div, q7, q12, q20, q99, q200, q999, q1e4, if_true, if_false, Nat.le_refl, q8, q11, q16, q18, q32, q44, q48, q57, q59, q97, q122, q900]
    refine ax_brc (fun c2 => ?_) (fun c2 => ?_)
    · rw [if_neg (of_decide_eq_false c2)] at q
      refine d74 h (by omega) (fun μ1 f1 h1 => ?_)
      try simp (disch := omega) only [h1.1.all, h1.2.1, h1.2.2.1.all, h1.2.2.2.2.1, show ¬ (5 = 2) by omega, show ¬ (5 = 3) by omega, show ¬ (5 = 4) by omega, show ¬ (5 = 1) by omega, show ¬ (1 = 0) by omega, wr_s, in_nI, clN, ti_z, ti_l, true_and, and_true, kI, zI, rI, kL, zL, rL, kR, zR, nnI, nnL, nnR, iL, iR, lI, lR, exi, exl, exv, eq_self, nI_add, nI_mul, nI_sub, nI_ltI, nI_leI, nI_eq, q0, q1, q2, q3, q4, q5, q6, q10, q100, br_Tr, br_Fa, iI_s, iI_n, bI_q0, bI_q1, or_true, true_or, not_true_eq_false, not_false_eq_true, nI_l, ge64, Nat.lt_irrefl, Nat.add_sub_cancel, Nat.not_lt_zero, lN_0, lN_1e4, lN_1e6, lN_1e3, lN_add, lN_mul, lN_ltI, lN_leI, lN_eqI, lN_i, lcE, lcLe, lcLt, lN_div, q7, q12, q20, q99, q200, q999, q1e4, if_true, if_false, Nat.le_refl, q8, q11, q16, q18, q32, q44, q48, q57, q59, q97, q122, q900]
      refine o109 h1 ?_
      exact q _ _ f1 h1
    · rw [if_pos (by simpa using c2)] at q
      rw [h.2.2.1.2.2.2.2.2.1 c]
      refine e109 h (by show s.1.1 ≠ 5; omega) (fun μ1 f1 h1 => ?_)
      exact q _ _ (f1.mono (fun b k q => ⟨q.1, q.2.1⟩)) ⟨rfl, h1⟩
  · rw [if_neg c] at q
    refine d74 h (by omega) (fun μ1 f1 h1 => ?_)
    try simp (disch := omega) only [h1.1.all, h1.2.1, h1.2.2.1.all, h1.2.2.2.2.1, show ¬ (5 = 2) by omega, show ¬ (5 = 3) by omega, show ¬ (5 = 4) by omega, show ¬ (5 = 1) by omega, show ¬ (1 = 0) by omega, wr_s, in_nI, clN, ti_z, ti_l, true_and, and_true, kI, zI, rI, kL, zL, rL, kR, zR, nnI, nnL, nnR, iL, iR, lI, lR, exi, exl, exv, eq_self, nI_add, nI_mul, nI_sub, nI_ltI, nI_leI, nI_eq, q0, q1, q2, q3, q4, q5, q6, q10, q100, br_Tr, br_Fa, iI_s, iI_n, bI_q0, bI_q1, or_true, true_or, not_true_eq_false, not_false_eq_true, nI_l, ge64, Nat.lt_irrefl, Nat.add_sub_cancel, Nat.not_lt_zero, lN_0, lN_1e4, lN_1e6, lN_1e3, lN_add, lN_mul, lN_ltI, lN_leI, lN_eqI, lN_i, lcE, lcLe, lcLt, lN_div, q7, q12, q20, q99, q200, q999, q1e4, if_true, if_false, Nat.le_refl, q8, q11, q16, q18, q32, q44, q48, q57, q59, q97, q122, q900]
    refine o109 h1 ?_
    exact q _ _ f1 h1
theorem d226o {b : Nat} {x y : Int32} {K : Int32 → ax_M → Prop} (h : MO μ N e) (q : ∀ v, K v μ) : ax_CI l G 226 [ax_r (some 332), ax_r (some b), ax_i x, ax_i y] μ K := by
  refine ax_Ct.of (by decide) (Nat.le_of_ble_eq_true rfl) (sg226_0 l G _ 332 b _ _ _ ?_)
  try simp (disch := omega) only [h.1.all, h.2.1, h.2.2.1.all, h.2.2.2.2.1, show ¬ (5 = 2) by omega, show ¬ (5 = 3) by omega, show ¬ (5 = 4) by omega, show ¬ (5 = 1) by omega, show ¬ (1 = 0) by omega, wr_s, in_nI, clN, ti_z, ti_l, true_and, and_true, kI, zI, rI, kL, zL, rL, kR, zR, nnI, nnL, nnR, iL, iR, lI, lR, exi, exl, exv, eq_self, nI_add, nI_mul, nI_sub, nI_ltI, nI_leI, nI_eq, q0, q1, q2, q3, q4, q5, q6, q10, q100, br_Tr, br_Fa, iI_s, iI_n, bI_q0, bI_q1, or_true, true_or, not_true_eq_false, not_false_eq_true, nI_l, ge64, Nat.lt_irrefl, Nat.add_sub_cancel, Nat.not_lt_zero, lN_0, lN_1e4, lN_1e6, lN_1e3, lN_add, lN_mul, lN_ltI, lN_leI, lN_eqI, lN_i, lcE, lcLe, lcLt, lN_div, q7, q12, q20, q99, q200, q999, q1e4, if_true, if_false, Nat.le_refl, q8, q11, q16, q18, q32, q44, q48, q57, q59, q97, q122, q900]
  refine d201o h ?_
  try simp (disch := omega) only [h.1.all, h.2.1, h.2.2.1.all, h.2.2.2.2.1, show ¬ (5 = 2) by omega, show ¬ (5 = 3) by omega, show ¬ (5 = 4) by omega, show ¬ (5 = 1) by omega, show ¬ (1 = 0) by omega, wr_s, in_nI, clN, ti_z, ti_l, true_and, and_true, kI, zI, rI, kL, zL, rL, kR, zR, nnI, nnL, nnR, iL, iR, lI, lR, exi, exl, exv, eq_self, nI_add, nI_mul, nI_sub, nI_ltI, nI_leI, nI_eq, q0, q1, q2, q3, q4, q5, q6, q10, q100, br_Tr, br_Fa, iI_s, iI_n, bI_q0, bI_q1, or_true, true_or, not_true_eq_false, not_false_eq_true, nI_l, ge64, Nat.lt_irrefl, Nat.add_sub_cancel, Nat.not_lt_zero, lN_0, lN_1e4, lN_1e6, lN_1e3, lN_add, lN_mul, lN_ltI, lN_leI, lN_eqI, lN_i, lcE, lcLe, lcLt, lN_div, q7, q12, q20, q99, q200, q999, q1e4, if_true, if_false, Nat.le_refl, q8, q11, q16, q18, q32, q44, q48, q57, q59, q97, q122, q900]
  refine d74o h ?_
  try simp (disch := omega) only [h.1.all, h.2.1, h.2.2.1.all, h.2.2.2.2.1, show ¬ (5 = 2) by omega, show ¬ (5 = 3) by omega, show ¬ (5 = 4) by omega, show ¬ (5 = 1) by omega, show ¬ (1 = 0) by omega, wr_s, in_nI, clN, ti_z, ti_l, true_and, and_true, kI, zI, rI, kL, zL, rL, kR, zR, nnI, nnL, nnR, iL, iR, lI, lR, exi, exl, exv, eq_self, nI_add, nI_mul, nI_sub, nI_ltI, nI_leI, nI_eq, q0, q1, q2, q3, q4, q5, q6, q10, q100, br_Tr, br_Fa, iI_s, iI_n, bI_q0, bI_q1, or_true, true_or, not_true_eq_false, not_false_eq_true, nI_l, ge64, Nat.lt_irrefl, Nat.add_sub_cancel, Nat.not_lt_zero, lN_0, lN_1e4, lN_1e6, lN_1e3, lN_add, lN_mul, lN_ltI, lN_leI, lN_eqI, lN_i, lcE, lcLe, lcLt, lN_div, q7, q12, q20, q99, q200, q999, q1e4, if_true, if_false, Nat.le_refl, q8, q11, q16, q18, q32, q44, q48, q57, q59, q97, q122, q900]
  refine o109 h ?_
  try simp (disch := omega) only [h.1.all, h.2.1, h.2.2.1.all, h.2.2.2.2.1, show ¬ (5 = 2) by omega, show ¬ (5 = 3) by omega, show ¬ (5 = 4) by omega, show ¬ (5 = 1) by omega, show ¬ (1 = 0) by omega, wr_s, in_nI, clN, ti_z, ti_l, true_and, and_true, kI, zI, rI, kL, zL, rL, kR, zR, nnI, nnL, nnR, iL, iR, lI, lR, exi, exl, exv, eq_self, nI_add, nI_mul, nI_sub, nI_ltI, nI_leI, nI_eq, q0, q1, q2, q3, q4, q5, q6, q10, q100, br_Tr, br_Fa, iI_s, iI_n, bI_q0, bI_q1, or_true, true_or, not_true_eq_false, not_false_eq_true, nI_l, ge64, Nat.lt_irrefl, Nat.add_sub_cancel, Nat.not_lt_zero, lN_0, lN_1e4, lN_1e6, lN_1e3, lN_add, lN_mul, lN_ltI, lN_leI, lN_eqI, lN_i, lcE, lcLe, lcLt, lN_div, q7, q12, q20, q99, q200, q999, q1e4, if_true, if_false, Nat.le_refl, q8, q11, q16, q18, q32, q44, q48, q57, q59, q97, q122, q900]
  refine d156o h (fun v => ?_)
  exact q _
theorem d226 {b lo hi : Nat} {K : Int32 → ax_M → Prop} (hG : GC G) (hb : 7 ≤ b) (hb2 : b < 35) (h : MR μ N n p s) (hl : lo ≤ 999) (hh : hi ≤ 999) (q : ∀ μ' v, FK PX μ μ' → MV μ' v N n p (bnd (tWd p n (sW b) s) (tWh p n lo hi)) → K v μ') : ax_CI l G 226 [ax_r (some 332), ax_r (some b), ax_i (nI lo), ax_i (nI hi)] μ K := by
  have hbd := h.bd
  unfold tWd at q
  refine ax_Ct.of (by decide) (Nat.le_of_ble_eq_true rfl) (sg226_0 l G _ 332 b _ _ _ ?_)
  try simp (disch := omega) only [h.1.1.all, h.1.2.1, h.2.1, h.2.2.1.2.1, h.2.2.1.2.2.1, h.2.2.2.2.1.1.all, h.cn, h.2.2.2.2.2.1.1, h.2.2.2.2.2.1.2, wr_s, in_nI, clN, ti_z, ti_l, true_and, and_true, kI, zI, rI, kL, zL, rL, kR, zR, nnI, nnL, nnR, iL, iR, lI, lR, exi, exl, exv, eq_self, nI_add, nI_mul, nI_sub, nI_ltI, nI_leI, nI_eq, q0, q1, q2, q3, q4, q5, q6, q10, q100, br_Tr, br_Fa, iI_s, iI_n, bI_q0, bI_q1, or_true, true_or, not_true_eq_false, not_false_eq_true, nI_l, ge64, Nat.lt_irrefl, Nat.add_sub_cancel, Nat.not_lt_zero, lN_0, lN_1e4, lN_1e6, lN_1e3, lN_add, lN_mul, lN_ltI, lN_leI, lN_eqI, lN_i, lcE, lcLe, lcLt, lN_div, q7, q12, q20, q99, q200, q999, q1e4, if_true, if_false, Nat.le_refl, q8, q11, q16, q18, q32, q44, q48, q57, q59, q97, q122, q900]
  refine f201 hG hb hb2 h ?_
  try simp (disch := omega) only [h.1.1.all, h.1.2.1, h.2.1, h.2.2.1.2.1, h.2.2.1.2.2.1, h.2.2.2.2.1.1.all, h.cn, h.2.2.2.2.2.1.1, h.2.2.2.2.2.1.2, wr_s, in_nI, clN, ti_z, ti_l, true_and, and_true, kI, zI, rI, kL, zL, rL, kR, zR, nnI, nnL, nnR, iL, iR, lI, lR, exi, exl, exv, eq_self, nI_add, nI_mul, nI_sub, nI_ltI, nI_leI, nI_eq, q0, q1, q2, q3, q4, q5, q6, q10, q100, br_Tr, br_Fa, iI_s, iI_n, bI_q0, bI_q1, or_true, true_or, not_true_eq_false, not_false_eq_true, nI_l, ge64, Nat.lt_irrefl, Nat.add_sub_cancel, Nat.not_lt_zero, lN_0, lN_1e4, lN_1e6, lN_1e3, lN_add, lN_mul, lN_ltI, lN_leI, lN_eqI, lN_i, lcE, lcLe, lcLt, lN_div, q7, q12, q20, q99, q200, q999, q1e4, if_true, if_false, Nat.le_refl, q8, q11, q16, q18, q32, q44, q48, q57, q59, q97, q122, q900]
  refine ax_brc (fun c => ?_) (fun c => ?_)
  · rw [if_neg (of_decide_eq_false c)] at q
    refine d74 h (by omega) (fun μ1 f1 h1 => ?_)
    try simp (disch := omega) only [h1.1.all, h1.2.1, h1.2.2.1.all, h1.2.2.2.2.1, show ¬ (5 = 2) by omega, show ¬ (5 = 3) by omega, show ¬ (5 = 4) by omega, show ¬ (5 = 1) by omega, show ¬ (1 = 0) by omega, wr_s, in_nI, clN, ti_z, ti_l, true_and, and_true, kI, zI, rI, kL, zL, rL, kR, zR, nnI, nnL, nnR, iL, iR, lI, lR, exi, exl, exv, eq_self, nI_add, nI_mul, nI_sub, nI_ltI, nI_leI, nI_eq, q0, q1, q2, q3, q4, q5, q6, q10, q100, br_Tr, br_Fa, iI_s, iI_n, bI_q0, bI_q1, or_true, true_or, not_true_eq_false, not_false_eq_true, nI_l, ge64, Nat.lt_irrefl, Nat.add_sub_cancel, Nat.not_lt_zero, lN_0, lN_1e4, lN_1e6, lN_1e3, lN_add, lN_mul, lN_ltI, lN_leI, lN_eqI, lN_i, lcE, lcLe, lcLt, lN_div, q7, q12, q20, q99, q200, q999, q1e4, if_true, if_false, Nat.le_refl, q8, q11, q16, q18, q32, q44, q48, q57, q59, q97, q122, q900]
    refine o109 h1 ?_
    try simp (disch := omega) only [h1.1.all, h1.2.1, h1.2.2.1.all, h1.2.2.2.2.1, show ¬ (5 = 2) by omega, show ¬ (5 = 3) by omega, show ¬ (5 = 4) by omega, show ¬ (5 = 1) by omega, show ¬ (1 = 0) by omega, wr_s, in_nI, clN, ti_z, ti_l, true_and, and_true, kI, zI, rI, kL, zL, rL, kR, zR, nnI, nnL, nnR, iL, iR, lI, lR, exi, exl, exv, eq_self, nI_add, nI_mul, nI_sub, nI_ltI, nI_leI, nI_eq, q0, q1, q2, q3, q4, q5, q6, q10, q100, br_Tr, br_Fa, iI_s, iI_n, bI_q0, bI_q1, or_true, true_or, not_true_eq_false, not_false_eq_true, nI_l, ge64, Nat.lt_irrefl, Nat.add_sub_cancel, Nat.not_lt_zero, lN_0, lN_1e4, lN_1e6, lN_1e3, lN_add, lN_mul, lN_ltI, lN_leI, lN_eqI, lN_i, lcE, lcLe, lcLt, lN_div, q7, q12, q20, q99, q200, q999, q1e4, if_true, if_false, Nat.le_refl, q8, q11, q16, q18, q32, q44, q48, q57, q59, q97, q122, q900]
    refine d156o h1 (fun v => ?_)
    exact q _ _ f1 h1
  · have c : tW s = sW b := by simpa using c
    rw [if_pos c, bnd_r] at q
    have k1 : tK s ≠ 5 := by
      intro e5
      have : tW s = [] := h.2.2.2.1.2.2.2.2.2.1 (by show tK s ≠ 1; omega)
      exact (sW_ok b hb hb2).2 (c.symm.trans this)
    refine e109 h k1 (fun μ1 f1 h1 => ?_)
    try simp (disch := omega) only [h1.1.1.all, h1.1.2.1, h1.2.1, h1.2.2.1.2.1, h1.2.2.1.2.2.1, h1.2.2.2.2.1.1.all, h1.cn, h1.2.2.2.2.2.1.1, h1.2.2.2.2.2.1.2, wr_s, in_nI, clN, ti_z, ti_l, true_and, and_true, kI, zI, rI, kL, zL, rL, kR, zR, nnI, nnL, nnR, iL, iR, lI, lR, exi, exl, exv, eq_self, nI_add, nI_mul, nI_sub, nI_ltI, nI_leI, nI_eq, q0, q1, q2, q3, q4, q5, q6, q10, q100, br_Tr, br_Fa, iI_s, iI_n, bI_q0, bI_q1, or_true, true_or, not_true_eq_false, not_false_eq_true, nI_l, ge64, Nat.lt_irrefl, Nat.add_sub_cancel, Nat.not_lt_zero, lN_0, lN_1e4, lN_1e6, lN_1e3, lN_add, lN_mul, lN_ltI, lN_leI, lN_eqI, lN_i, lcE, lcLe, lcLt, lN_div, q7, q12, q20, q99, q200, q999, q1e4, if_true, if_false, Nat.le_refl, q8, q11, q16, q18, q32, q44, q48, q57, q59, q97, q122, q900]
    refine d156 h1 hl hh (fun μ2 v f2 h2 => ?_)
    exact q _ _ ((f1.mono (fun b k q => ⟨q.1, q.2.1⟩)).trans f2) h2
theorem tW_5 (h : MR μ N n p s) {w : List Nat} (hw : w ≠ []) (e : tW s = w) : tK s ≠ 5 := by
  intro e5
  have : tW s = [] := h.2.2.2.1.2.2.2.2.2.1 (by show tK s ≠ 1; omega)
  exact hw (e.symm.trans this)
def o3 (p : Nat → Nat) (n : Nat) (w1 w2 w3 : List Nat) (s : PS) : Rs (Nat × PS) := if tW s = w1 then .inr (0, ad p n s) else if tW s = w2 then .inr (1, ad p n s) else if tW s = w3 then .inr (2, ad p n s) else er 1 s
theorem d225o {a b c : Nat} {K : Int32 → ax_M → Prop} (h : MO μ N e) (q : ∀ v, K v μ) : ax_CI l G 225 [ax_r (some 332), ax_r (some a), ax_r (some b), ax_r (some c)] μ K := by
  refine ax_Ct.of (by decide) (Nat.le_of_ble_eq_true rfl) (sg225_0 l G _ 332 a b c _ ?_)
  try simp (disch := omega) only [h.1.all, h.2.1, h.2.2.1.all, h.2.2.2.2.1, show ¬ (5 = 2) by omega, show ¬ (5 = 3) by omega, show ¬ (5 = 4) by omega, show ¬ (5 = 1) by omega, show ¬ (1 = 0) by omega, wr_s, in_nI, clN, ti_z, ti_l, true_and, and_true, kI, zI, rI, kL, zL, rL, kR, zR, nnI, nnL, nnR, iL, iR, lI, lR, exi, exl, exv, eq_self, nI_add, nI_mul, nI_sub, nI_ltI, nI_leI, nI_eq, q0, q1, q2, q3, q4, q5, q6, q10, q100, br_Tr, br_Fa, iI_s, iI_n, bI_q0, bI_q1, or_true, true_or, not_true_eq_false, not_false_eq_true, nI_l, ge64, Nat.lt_irrefl, Nat.add_sub_cancel, Nat.not_lt_zero, lN_0, lN_1e4, lN_1e6, lN_1e3, lN_add, lN_mul, lN_ltI, lN_leI, lN_eqI, lN_i, lcE, lcLe, lcLt, lN_div, q7, q12, q20, q99, q200, q999, q1e4, if_true, if_false, Nat.le_refl, q8, q11, q16, q18, q32, q44, q48, q57, q59, q97, q122, q900]
  refine d201o h ?_
  try simp (disch := omega) only [h.1.all, h.2.1, h.2.2.1.all, h.2.2.2.2.1, show ¬ (5 = 2) by omega, show ¬ (5 = 3) by omega, show ¬ (5 = 4) by omega, show ¬ (5 = 1) by omega, show ¬ (1 = 0) by omega, wr_s, in_nI, clN, ti_z, ti_l, true_and, and_true, kI, zI, rI, kL, zL, rL, kR, zR, nnI, nnL, nnR, iL, iR, lI, lR, exi, exl, exv, eq_self, nI_add, nI_mul, nI_sub, nI_ltI, nI_leI, nI_eq, q0, q1, q2, q3, q4, q5, q6, q10, q100, br_Tr, br_Fa, iI_s, iI_n, bI_q0, bI_q1, or_true, true_or, not_true_eq_false, not_false_eq_true, nI_l, ge64, Nat.lt_irrefl, Nat.add_sub_cancel, Nat.not_lt_zero, lN_0, lN_1e4, lN_1e6, lN_1e3, lN_add, lN_mul, lN_ltI, lN_leI, lN_eqI, lN_i, lcE, lcLe, lcLt, lN_div, q7, q12, q20, q99, q200, q999, q1e4, if_true, if_false, Nat.le_refl, q8, q11, q16, q18, q32, q44, q48, q57, q59, q97, q122, q900]
  refine d201o h ?_
  try simp (disch := omega) only [h.1.all, h.2.1, h.2.2.1.all, h.2.2.2.2.1, show ¬ (5 = 2) by omega, show ¬ (5 = 3) by omega, show ¬ (5 = 4) by omega, show ¬ (5 = 1) by omega, show ¬ (1 = 0) by omega, wr_s, in_nI, clN, ti_z, ti_l, true_and, and_true, kI, zI, rI, kL, zL, rL, kR, zR, nnI, nnL, nnR, iL, iR, lI, lR, exi, exl, exv, eq_self, nI_add, nI_mul, nI_sub, nI_ltI, nI_leI, nI_eq, q0, q1, q2, q3, q4, q5, q6, q10, q100, br_Tr, br_Fa, iI_s, iI_n, bI_q0, bI_q1, or_true, true_or, not_true_eq_false, not_false_eq_true, nI_l, ge64, Nat.lt_irrefl, Nat.add_sub_cancel, Nat.not_lt_zero, lN_0, lN_1e4, lN_1e6, lN_1e3, lN_add, lN_mul, lN_ltI, lN_leI, lN_eqI, lN_i, lcE, lcLe, lcLt, lN_div, q7, q12, q20, q99, q200, q999, q1e4, if_true, if_false, Nat.le_refl, q8, q11, q16, q18, q32, q44, q48, q57, q59, q97, q122, q900]
  refine d201o h ?_
  try simp (disch := omega) only [h.1.all, h.2.1, h.2.2.1.all, h.2.2.2.2.1, show ¬ (5 = 2) by omega, show ¬ (5 = 3) by omega, show ¬ (5 = 4) by omega, show ¬ (5 = 1) by omega, show ¬ (1 = 0) by omega, wr_s, in_nI, clN, ti_z, ti_l, true_and, and_true, kI, zI, rI, kL, zL, rL, kR, zR, nnI, nnL, nnR, iL, iR, lI, lR, exi, exl, exv, eq_self, nI_add, nI_mul, nI_sub, nI_ltI, nI_leI, nI_eq, q0, q1, q2, q3, q4, q5, q6, q10, q100, br_Tr, br_Fa, iI_s, iI_n, bI_q0, bI_q1, or_true, true_or, not_true_eq_false, not_false_eq_true, nI_l, ge64, Nat.lt_irrefl, Nat.add_sub_cancel, Nat.not_lt_zero, lN_0, lN_1e4, lN_1e6, lN_1e3, lN_add, lN_mul, lN_ltI, lN_leI, lN_eqI, lN_i, lcE, lcLe, lcLt, lN_div, q7, q12, q20, q99, q200, q999, q1e4, if_true, if_false, Nat.le_refl, q8, q11, q16, q18, q32, q44, q48, q57, q59, q97, q122, q900]
  refine d74o h ?_
  try simp (disch := omega) only [h.1.all, h.2.1, h.2.2.1.all, h.2.2.2.2.1, show ¬ (5 = 2) by omega, show ¬ (5 = 3) by omega, show ¬ (5 = 4) by omega, show ¬ (5 = 1) by omega, show ¬ (1 = 0) by omega, wr_s, in_nI, clN, ti_z, ti_l, true_and, and_true, kI, zI, rI, kL, zL, rL, kR, zR, nnI, nnL, nnR, iL, iR, lI, lR, exi, exl, exv, eq_self, nI_add, nI_mul, nI_sub, nI_ltI, nI_leI, nI_eq, q0, q1, q2, q3, q4, q5, q6, q10, q100, br_Tr, br_Fa, iI_s, iI_n, bI_q0, bI_q1, or_true, true_or, not_true_eq_false, not_false_eq_true, nI_l, ge64, Nat.lt_irrefl, Nat.add_sub_cancel, Nat.not_lt_zero, lN_0, lN_1e4, lN_1e6, lN_1e3, lN_add, lN_mul, lN_ltI, lN_leI, lN_eqI, lN_i, lcE, lcLe, lcLt, lN_div, q7, q12, q20, q99, q200, q999, q1e4, if_true, if_false, Nat.le_refl, q8, q11, q16, q18, q32, q44, q48, q57, q59, q97, q122, q900]
  refine o109 h ?_
  exact q _
theorem n_n1 (k : Nat) (hk : k < 2 ^ 31) : (nI k = -nI 1) = False := eq_false (n1_ne hk)
theorem d225 {a b c : Nat} {K : Int32 → ax_M → Prop} (hG : GC G) (ha : 7 ≤ a ∧ a < 35) (hb : 7 ≤ b ∧ b < 35) (hc : 7 ≤ c ∧ c < 35) (h : MR μ N n p s) (q : ∀ μ' v, FK PX μ μ' → MV μ' v N n p (o3 p n (sW a) (sW b) (sW c) s) → K v μ') : ax_CI l G 225 [ax_r (some 332), ax_r (some a), ax_r (some b), ax_r (some c)] μ K := by
  have hbd := h.bd
  unfold o3 at q
  refine ax_Ct.of (by decide) (Nat.le_of_ble_eq_true rfl) (sg225_0 l G _ 332 a b c _ ?_)
  try simp (disch := omega) only [h.1.1.all, h.1.2.1, h.2.1, h.2.2.1.2.1, h.2.2.1.2.2.1, h.2.2.2.2.1.1.all, h.cn, h.2.2.2.2.2.1.1, h.2.2.2.2.2.1.2, n_n1, wr_s, in_nI, clN, ti_z, ti_l, true_and, and_true, kI, zI, rI, kL, zL, rL, kR, zR, nnI, nnL, nnR, iL, iR, lI, lR, exi, exl, exv, eq_self, nI_add, nI_mul, nI_sub, nI_ltI, nI_leI, nI_eq, q0, q1, q2, q3, q4, q5, q6, q10, q100, br_Tr, br_Fa, iI_s, iI_n, bI_q0, bI_q1, or_true, true_or, not_true_eq_false, not_false_eq_true, nI_l, ge64, Nat.lt_irrefl, Nat.add_sub_cancel, Nat.not_lt_zero, lN_0, lN_1e4, lN_1e6, lN_1e3, lN_add, lN_mul, lN_ltI, lN_leI, lN_eqI, lN_i, lcE, lcLe, lcLt, lN_div, q7, q12, q20, q99, q200, q999, q1e4, if_true, if_false, Nat.le_refl, q8, q11, q16, q18, q32, q44, q48, q57, q59, q97, q122, q900]
  refine f201 hG ha.1 ha.2 h ?_
  try simp (disch := omega) only [h.1.1.all, h.1.2.1, h.2.1, h.2.2.1.2.1, h.2.2.1.2.2.1, h.2.2.2.2.1.1.all, h.cn, h.2.2.2.2.2.1.1, h.2.2.2.2.2.1.2, n_n1, wr_s, in_nI, clN, ti_z, ti_l, true_and, and_true, kI, zI, rI, kL, zL, rL, kR, zR, nnI, nnL, nnR, iL, iR, lI, lR, exi, exl, exv, eq_self, nI_add, nI_mul, nI_sub, nI_ltI, nI_leI, nI_eq, q0, q1, q2, q3, q4, q5, q6, q10, q100, br_Tr, br_Fa, iI_s, iI_n, bI_q0, bI_q1, or_true, true_or, not_true_eq_false, not_false_eq_true, nI_l, ge64, Nat.lt_irrefl, Nat.add_sub_cancel, Nat.not_lt_zero, lN_0, lN_1e4, lN_1e6, lN_1e3, lN_add, lN_mul, lN_ltI, lN_leI, lN_eqI, lN_i, lcE, lcLe, lcLt, lN_div, q7, q12, q20, q99, q200, q999, q1e4, if_true, if_false, Nat.le_refl, q8, q11, q16, q18, q32, q44, q48, q57, q59, q97, q122, q900]
  refine ax_brc (fun c1 => ?_) (fun c1 => ?_)
  · rw [if_neg (of_decide_eq_false c1)] at q
    refine f201 hG hb.1 hb.2 h ?_
    try simp (disch := omega) only [h.1.1.all, h.1.2.1, h.2.1, h.2.2.1.2.1, h.2.2.1.2.2.1, h.2.2.2.2.1.1.all, h.cn, h.2.2.2.2.2.1.1, h.2.2.2.2.2.1.2, n_n1, wr_s, in_nI, clN, ti_z, ti_l, true_and, and_true, kI, zI, rI, kL, zL, rL, kR, zR, nnI, nnL, nnR, iL, iR, lI, lR, exi, exl, exv, eq_self, nI_add, nI_mul, nI_sub, nI_ltI, nI_leI, nI_eq, q0, q1, q2, q3, q4, q5, q6, q10, q100, br_Tr, br_Fa, iI_s, iI_n, bI_q0, bI_q1, or_true, true_or, not_true_eq_false, not_false_eq_true, nI_l, ge64, Nat.lt_irrefl, Nat.add_sub_cancel, Nat.not_lt_zero, lN_0, lN_1e4, lN_1e6, lN_1e3, lN_add, lN_mul, lN_ltI, lN_leI, lN_eqI, lN_i, lcE, lcLe, lcLt, lN_div, q7, q12, q20, q99, q200, q999, q1e4, if_true, if_false, Nat.le_refl, q8, q11, q16, q18, q32, q44, q48, q57, q59, q97, q122, q900]
    refine ax_brc (fun c2 => ?_) (fun c2 => ?_)
    · rw [if_neg (of_decide_eq_false c2)] at q
      refine f201 hG hc.1 hc.2 h ?_
      try simp (disch := omega) only [h.1.1.all, h.1.2.1, h.2.1, h.2.2.1.2.1, h.2.2.1.2.2.1, h.2.2.2.2.1.1.all, h.cn, h.2.2.2.2.2.1.1, h.2.2.2.2.2.1.2, n_n1, wr_s, in_nI, clN, ti_z, ti_l, true_and, and_true, kI, zI, rI, kL, zL, rL, kR, zR, nnI, nnL, nnR, iL, iR, lI, lR, exi, exl, exv, eq_self, nI_add, nI_mul, nI_sub, nI_ltI, nI_leI, nI_eq, q0, q1, q2, q3, q4, q5, q6, q10, q100, br_Tr, br_Fa, iI_s, iI_n, bI_q0, bI_q1, or_true, true_or, not_true_eq_false, not_false_eq_true, nI_l, ge64, Nat.lt_irrefl, Nat.add_sub_cancel, Nat.not_lt_zero, lN_0, lN_1e4, lN_1e6, lN_1e3, lN_add, lN_mul, lN_ltI, lN_leI, lN_eqI, lN_i, lcE, lcLe, lcLt, lN_div, q7, q12, q20, q99, q200, q999, q1e4, if_true, if_false, Nat.le_refl, q8, q11, q16, q18, q32, q44, q48, q57, q59, q97, q122, q900]
      refine ax_brc (fun c3 => ?_) (fun c3 => ?_)
      · rw [if_neg (of_decide_eq_false c3)] at q
        refine d74 h (by omega) (fun μ1 f1 h1 => ?_)
        try simp (disch := omega) only [h1.1.all, h1.2.1, h1.2.2.1.all, h1.2.2.2.2.1, show ¬ (5 = 2) by omega, show ¬ (5 = 3) by omega, show ¬ (5 = 4) by omega, show ¬ (5 = 1) by omega, show ¬ (1 = 0) by omega, wr_s, in_nI, clN, ti_z, ti_l, true_and, and_true, kI, zI, rI, kL, zL, rL, kR, zR, nnI, nnL, nnR, iL, iR, lI, lR, exi, exl, exv, eq_self, nI_add, nI_mul, nI_sub, nI_ltI, nI_leI, nI_eq, q0, q1, q2, q3, q4, q5, q6, q10, q100, br_Tr, br_Fa, iI_s, iI_n, bI_q0, bI_q1, or_true, true_or, not_true_eq_false, not_false_eq_true, nI_l, ge64, Nat.lt_irrefl, Nat.add_sub_cancel, Nat.not_lt_zero, lN_0, lN_1e4, lN_1e6, lN_1e3, lN_add, lN_mul, lN_ltI, lN_leI, lN_eqI, lN_i, lcE, lcLe, lcLt, lN_div, q7, q12, q20, q99, q200, q999, q1e4, if_true, if_false, Nat.le_refl, q8, q11, q16, q18, q32, q44, q48, q57, q59, q97, q122, q900]
        refine o109 h1 ?_
        exact q _ _ f1 h1
      · have c3 : tW s = sW c := by simpa using c3
        rw [if_pos c3] at q
        refine e109 h (tW_5 h (sW_ok c hc.1 hc.2).2 c3) (fun μ1 f1 h1 => ?_)
        exact q _ _ (f1.mono (fun b k q => ⟨q.1, q.2.1⟩)) ⟨rfl, h1⟩
    · have c2 : tW s = sW b := by simpa using c2
      rw [if_pos c2] at q
      refine e109 h (tW_5 h (sW_ok b hb.1 hb.2).2 c2) (fun μ1 f1 h1 => ?_)
      exact q _ _ (f1.mono (fun b k q => ⟨q.1, q.2.1⟩)) ⟨rfl, h1⟩
  · have c1 : tW s = sW a := by simpa using c1
    rw [if_pos c1] at q
    refine e109 h (tW_5 h (sW_ok a ha.1 ha.2).2 c1) (fun μ1 f1 h1 => ?_)
    exact q _ _ (f1.mono (fun b k q => ⟨q.1, q.2.1⟩)) ⟨rfl, h1⟩
end V2
