/-! the class: a line, the whole text, land -/
theorem TN.fq {P : Nat → Prop} {μ μ1 : ax_M} {y c L : Nat} {a : Ld} (h : TN μ y c L a) (f : FQ P μ μ1) (hp : ∀ b, P b → (b < c ∨ c + 81 ≤ b) ∧ (b < L ∨ L + 42 ≤ b) ∧ (b < y + 2 ∨ y + 5 ≤ b)) : TN μ1 y c L a := by
  obtain ⟨n, kz, i, lo, r⟩ := μ
  obtain ⟨n1, kz1, i1, lo1, r1⟩ := μ1
  obtain ⟨rfl, rfl, rfl, q⟩ : n1 = n ∧ kz1 = kz ∧ r1 = r ∧ _ := f
  have f' : Fr (fun b _ => P b) (n1, kz1, i, lo, r1) (n1, kz1, i1, lo, r1) := ⟨rfl, rfl, rfl, rfl, fun b k hn => (q b k hn).1⟩
  have h' := h.fr f' (fun b _ q => hp b q)
  exact h'
theorem XS.fq {P : Nat → Prop} {μ μ1 : ax_M} {L M : Nat} (hc : XS μ L M) (h : FQ P μ μ1) : XS μ1 L M := by
  obtain ⟨n, kz, i, lo, r⟩ := μ
  obtain ⟨n1, kz1, i1, lo1, r1⟩ := μ1
  obtain ⟨-, rfl, rfl, -⟩ : n1 = n ∧ kz1 = kz ∧ r1 = r ∧ _ := h
  exact hc
theorem XW.fq {P : Nat → Prop} {μ μ1 : ax_M} {st : St} {L M : Nat} (h : XW μ st L M) (f : FQ P μ μ1) (hp : ∀ b, P b → (M ≤ b ∧ b < M + 42) ∨ (150 ≤ b ∧ b < 156)) : XW μ1 st L M := by
  have hb := h.bd
  obtain ⟨hs, g1, g2, g3, g4, g5, g6⟩ := h
  refine ⟨hs.fq f, ?_, g2, fun e => ?_, fun i hi => ?_, fun k hk => ?_, fun a ha => (g6 a ha).fq f (fun b q => by have := hp b q; omega)⟩
  · rw [f.I (fun q => by have := hp _ q; omega), f.I (fun q => by have := hp _ q; omega), f.I (fun q => by have := hp _ q; omega)]
    exact g1
  · rw [f.I (fun q => by have := hp _ q; omega)]
    exact g3 e
  · rw [f.I (fun q => by have := hp _ q; omega)]
    exact g4 i hi
  · rw [f.I (fun q => by have := hp _ q; omega)]
    exact g5 k hk
theorem Out.FQ {P : Nat → Prop} {lo hi : Nat} {μ μ1 μ2 : ax_M} (h : Out lo hi μ μ1) (f : FQ P μ1 μ2) (hp : ∀ b, P b → lo ≤ b ∧ b < hi) : Out lo hi μ μ2 :=
  ⟨f.1.trans h.1, fun b hb' => ⟨by rw [f.2.1]; exact (h.2 b hb').1, fun j => ⟨by rw [f.I (fun q => by have := hp b q; omega)]; exact ((h.2 b hb').2 j).1, by rw [f.L (fun q => by have := hp b q; omega)]; exact ((h.2 b hb').2 j).2.1, by rw [f.R]; exact ((h.2 b hb').2 j).2.2⟩⟩⟩
theorem XW.l0 {μ : ax_M} {st : St} {L M : Nat} (h : XW μ st L M) : XW (sI μ 64 8 (nI 0)) (tp st, 0, st.2.2) L M := by
  have hb := h.bd
  obtain ⟨hs, g1, g2, g3, g4, g5, g6⟩ := h
  have f : Fr (fun b k => b = 64 ∧ k = 8) μ (sI μ 64 8 (nI 0)) := (Fr.refl _ _).put ⟨rfl, rfl⟩
  refine ⟨hs.fr f, ⟨iI_s _ _ _ _, by rw [f.I (by omega)]; exact g1.2.1, by rw [f.I (by omega)]; exact g1.2.2⟩, ⟨Nat.zero_le _, g2.2⟩, fun e => by rw [f.I (by omega)]; exact g3 e, fun i hi => absurd hi (Nat.not_lt_zero _), fun k hk => ?_, fun a ha => (g6 a ha).fr f (fun b k q => by obtain ⟨q, -⟩ := q; omega)⟩
  rw [f.I (by omega)]
  exact g5 k hk
theorem rd_r2 {μ : ax_M} {x : Option Nat} (h : isReader μ) : isReader (sR μ 150 2 x) := by
  unfold isReader at h ⊢
  simp (disch := omega) only [kR, zR, rR_n]
  exact h
theorem XW.r2 {μ : ax_M} {st : St} {L M : Nat} {x : Option Nat} (h : XW μ st L M) : XW (sR μ 150 2 x) st L M := by
  have hb := h.bd
  obtain ⟨⟨h1, h2, h3, h4, h5, h6, h7, h8, h9⟩, g1, g2, g3, g4, g5, g6⟩ := h
  refine ⟨⟨h1.sR (by decide), h2, rd_r2 h3, ?_, ?_, h6.oR (by omega), h7.sR (by omega), h8.oR (by omega), h9.sR (by omega)⟩, g1, g2, g3, g4, g5, fun a ha => (g6 a ha).sRo (by omega) (by omega) (by omega)⟩
  · exact h4.sR (by omega)
  · exact h5.sR (by omega)
section T8
variable {l : Launch} {G : ax_G} {μ : ax_M} {M n : Nat} {p : Nat → Nat} {s : PS}
theorem k7 : (120325361920115 : Int64) = lN (cdB 256 0 (sW 7)) := by decide +kernel
theorem k8 : (444301538672 : Int64) = lN (cdB 256 0 (sW 8)) := by decide +kernel
theorem k9 : (499967946343 : Int64) = lN (cdB 256 0 (sW 9)) := by decide +kernel
theorem k10 : (109299962373989 : Int64) = lN (cdB 256 0 (sW 10)) := by decide +kernel
theorem k11 : (448546567013 : Int64) = lN (cdB 256 0 (sW 11)) := by decide +kernel
theorem k12 : (122485595530085 : Int64) = lN (cdB 256 0 (sW 12)) := by decide +kernel
theorem d196 {K : Int32 → ax_M → Prop} (hG : GC G) (h : RS μ M n p s) (hI : NI (pL s) (pM s)) (q : ∀ μ' v, FQ (PM M) μ μ' → RR μ' v M n p (rLn p n s) → K v μ') : ax_CI l G 196 [ax_r (some 150)] μ K := by
  have hb := h.bd
  have hc := hI.1
  have w (k : Nat) (h1 : 7 ≤ k) (h2 : k < 35) : (lN (cdB 256 0 s.1.2.2.2.1) = lN (cdB 256 0 (sW k))) = (tW s = sW k) := h.w.eq (sW_ok k h1 h2).1
  have r01 : ∀ {μ' v x}, RR μ' v M n p x → (v = nI 0 ∨ v = nI 1) := by
    intro μ' v x hx
    cases x with
    | inl e => exact Or.inl hx.1
    | inr e => exact Or.inr hx.1
  unfold rLn at q
  refine ax_Ct.of (by decide) (Nat.le_of_ble_eq_true rfl) (sg196_0 l G _ 150 _ ?_)
  try simp (disch := omega) only [h.1.1, h.1.2.1.all, h.2.1.1, h.2.2.1.all, h.2.2.2.2.1.1.all, h.2.2.2.2.1.all, h.2.2.2.2.2.1.1, h.2.2.2.2.2.1.2, k7, k8, k9, k10, k11, k12, wr_s, in_nI, clN, ti_z, ti_l, true_and, and_true, kI, zI, rI, kL, zL, rL, kR, zR, nnI, nnL, nnR, iL, iR, lI, lR, exi, exl, exv, eq_self, nI_add, nI_mul, nI_sub, nI_ltI, nI_leI, nI_eq, q0, q1, q2, q3, q4, q5, q6, q10, q100, br_Tr, br_Fa, iI_s, iI_n, bI_q0, bI_q1, or_true, true_or, not_true_eq_false, not_false_eq_true, nI_l, ge64, Nat.lt_irrefl, Nat.add_sub_cancel, Nat.not_lt_zero, lN_0, lN_1e4, lN_1e6, lN_1e3, lN_add, lN_mul, lN_ltI, lN_leI, lN_i, lcE, lcLe, lcLt, lN_div, q7, q12, q20, q99, q200, q999, q1e4, if_true, if_false, Nat.le_refl, q8, q11, q16, q18, q32, q44, q48, q57, q59, q97, q122, q900]
  rw [w 7 (by omega) (by omega), w 8 (by omega) (by omega), w 9 (by omega) (by omega), w 10 (by omega) (by omega), w 11 (by omega) (by omega), w 12 (by omega) (by omega)]
  refine ax_brc (fun e => ?_) (fun e => ?_)
  · rw [if_pos e] at q
    exact d173 h (fun μ' v f hr => ⟨r01 hr, q _ _ f hr⟩)
  rw [if_neg e] at q
  refine ax_brc (fun e => ?_) (fun e => ?_)
  · rw [if_pos e] at q
    exact d172 hG h (by omega) (fun μ' v f hr => ⟨r01 hr, q _ _ f hr⟩)
  rw [if_neg e] at q
  refine ax_brc (fun e => ?_) (fun e => ?_)
  · rw [if_pos e] at q
    exact d175 hG h (by omega) (fun μ' v f hr => ⟨r01 hr, q _ _ f hr⟩)
  rw [if_neg e] at q
  refine ax_brc (fun e => ?_) (fun e => ?_)
  · rw [if_pos e] at q
    exact d171 hG h (fun μ' v f hr => ⟨r01 hr, q _ _ f hr⟩)
  rw [if_neg e] at q
  refine ax_brc (fun e => ?_) (fun e => ?_)
  · rw [if_pos e] at q
    exact d186 hG h (by omega) hI (fun μ' v f hr => ⟨r01 hr, q _ _ f hr⟩)
  rw [if_neg e] at q
  refine ax_brc (fun e => ?_) (fun e => ?_)
  · rw [if_pos e] at q
    exact d174 hG h (by omega) (fun μ' v f hr => ⟨r01 hr, q _ _ f hr⟩)
  rw [if_neg e] at q
  refine d32 h (fun μ1 f1 h1 => ?_)
  try simp (disch := omega) only [wr_s, in_nI, clN, ti_z, ti_l, true_and, and_true, kI, zI, rI, kL, zL, rL, kR, zR, nnI, nnL, nnR, iL, iR, lI, lR, exi, exl, exv, eq_self, nI_add, nI_mul, nI_sub, nI_ltI, nI_leI, nI_eq, q0, q1, q2, q3, q4, q5, q6, q10, q100, br_Tr, br_Fa, iI_s, iI_n, bI_q0, bI_q1, or_true, true_or, not_true_eq_false, not_false_eq_true, nI_l, ge64, Nat.lt_irrefl, Nat.add_sub_cancel, Nat.not_lt_zero, lN_0, lN_1e4, lN_1e6, lN_1e3, lN_add, lN_mul, lN_ltI, lN_leI, lN_eqI, lN_i, lcE, lcLe, lcLt, lN_div, q7, q12, q20, q99, q200, q999, q1e4, if_true, if_false, Nat.le_refl, q8, q11, q16, q18, q32, q44, q48, q57, q59, q97, q122, q900]
  exact q _ _ (f1.mono (fun b q => by have q : b = 150 := q; omega)) ⟨rfl, h1⟩
theorem d36 {K : Int32 → ax_M → Prop} (h : RS μ M n p s) (q : K (bI (isWl (pL s))) μ) : ax_CI l G 36 [ax_r (some 150)] μ K := by
  have hb := h.bd
  unfold isWl at q
  refine ax_Ct.of (by decide) (Nat.le_of_ble_eq_true rfl) (sg36_0 l G _ 150 _ ?_)
  try simp (disch := omega) only [h.1.1, h.1.2.1.all, h.2.1.1, h.2.2.1.all, h.2.2.2.2.1.1.all, h.2.2.2.2.1.all, h.2.2.2.2.2.1.1, h.2.2.2.2.2.1.2, wr_s, in_nI, clN, ti_z, ti_l, true_and, and_true, kI, zI, rI, kL, zL, rL, kR, zR, nnI, nnL, nnR, iL, iR, lI, lR, exi, exl, exv, eq_self, nI_add, nI_mul, nI_sub, nI_ltI, nI_leI, nI_eq, q0, q1, q2, q3, q4, q5, q6, q10, q100, br_Tr, br_Fa, iI_s, iI_n, bI_q0, bI_q1, or_true, true_or, not_true_eq_false, not_false_eq_true, nI_l, ge64, Nat.lt_irrefl, Nat.add_sub_cancel, Nat.not_lt_zero, lN_0, lN_1e4, lN_1e6, lN_1e3, lN_add, lN_mul, lN_ltI, lN_leI, lN_eqI, lN_i, lcE, lcLe, lcLt, lN_div, q7, q12, q20, q99, q200, q999, q1e4, if_true, if_false, Nat.le_refl, q8, q11, q16, q18, q32, q44, q48, q57, q59, q97, q122, q900]
  refine ax_brc (fun e => ?_) (fun e => ?_)
  · rw [show decide (0 < nMo (pL s)) = false by simp; omega] at q; exact q
  rw [show decide (0 < nMo (pL s)) = true by simp; omega] at q
  refine ax_brc (fun e => ?_) (fun e => ?_)
  · rw [show decide (0 < nTh (pL s)) = false by simp; omega] at q; exact q
  rw [show decide (0 < nTh (pL s)) = true by simp; omega] at q
  refine ax_brc (fun e => ?_) (fun e => ?_)
  · rw [show decide (0 < nHo (pL s)) = false by simp; omega] at q; exact q
  rw [show decide (0 < nHo (pL s)) = true by simp; omega] at q
  refine ax_brc (fun e => ?_) (fun e => ?_)
  · rw [show decide (0 < nOf (pL s)) = false by simp; omega] at q; exact q
  rw [show decide (0 < nOf (pL s)) = true by simp; omega] at q
  exact q
theorem d18 {K : ax_M → Prop} (hk : mK μ M = 3) (h64 : 64 ≤ M) (q : ∀ μ', FQ (fun b => b = M) μ μ' → (∀ k, k < 7 → gI μ' M (4 + k) = nI 0) → K μ') : ax_CV l G 18 [ax_r (some M)] μ K := by
  refine ax_Ct.of (by decide) (Nat.le_of_ble_eq_true rfl) (sg18_0 l G _ M _ ?_)
  try simp (disch := omega) only [hk, wr_s, in_nI, clN, ti_z, ti_l, true_and, and_true, kI, zI, rI, kL, zL, rL, kR, zR, nnI, nnL, nnR, iL, iR, lI, lR, exi, exl, exv, eq_self, nI_add, nI_mul, nI_sub, nI_ltI, nI_leI, nI_eq, q0, q1, q2, q3, q4, q5, q6, q10, q100, br_Tr, br_Fa, iI_s, iI_n, bI_q0, bI_q1, or_true, true_or, not_true_eq_false, not_false_eq_true, nI_l, ge64, Nat.lt_irrefl, Nat.add_sub_cancel, Nat.not_lt_zero, lN_0, lN_1e4, lN_1e6, lN_1e3, lN_add, lN_mul, lN_ltI, lN_leI, lN_eqI, lN_i, lcE, lcLe, lcLt, lN_div, q7, q12, q20, q99, q200, q999, q1e4, if_true, if_false, Nat.le_refl, q8, q11, q16, q18, q32, q44, q48, q57, q59, q97, q122, q900]
  refine q _ ((((((((FQ.refl (fun b => b = M) _).put rfl).put rfl).put rfl).put rfl).put rfl).put rfl).put rfl) (fun k hk => ?_)
  rcases (show k = 0 ∨ k = 1 ∨ k = 2 ∨ k = 3 ∨ k = 4 ∨ k = 5 ∨ k = 6 by omega) with rfl | rfl | rfl | rfl | rfl | rfl | rfl <;> try simp (disch := omega) only [Nat.reduceAdd, wr_s, in_nI, clN, ti_z, ti_l, true_and, and_true, kI, zI, rI, kL, zL, rL, kR, zR, nnI, nnL, nnR, iL, iR, lI, lR, exi, exl, exv, eq_self, nI_add, nI_mul, nI_sub, nI_ltI, nI_leI, nI_eq, q0, q1, q2, q3, q4, q5, q6, q10, q100, br_Tr, br_Fa, iI_s, iI_n, bI_q0, bI_q1, or_true, true_or, not_true_eq_false, not_false_eq_true, nI_l, ge64, Nat.lt_irrefl, Nat.add_sub_cancel, Nat.not_lt_zero, lN_0, lN_1e4, lN_1e6, lN_1e3, lN_add, lN_mul, lN_ltI, lN_leI, lN_eqI, lN_i, lcE, lcLe, lcLt, lN_div, q7, q12, q20, q99, q200, q999, q1e4, if_true, if_false, Nat.le_refl, q8, q11, q16, q18, q32, q44, q48, q57, q59, q97, q122, q900]
theorem d28 {K : ax_M → Prop} (hk : mK μ 151 = 4) (q : K (sI μ 151 3 (nI 0))) : ax_CV l G 28 [ax_r (some 151)] μ K := by
  refine ax_Ct.of (by decide) (Nat.le_of_ble_eq_true rfl) (sg28_0 l G _ 151 _ ?_)
  try simp (disch := omega) only [hk, wr_s, in_nI, clN, ti_z, ti_l, true_and, and_true, kI, zI, rI, kL, zL, rL, kR, zR, nnI, nnL, nnR, iL, iR, lI, lR, exi, exl, exv, eq_self, nI_add, nI_mul, nI_sub, nI_ltI, nI_leI, nI_eq, q0, q1, q2, q3, q4, q5, q6, q10, q100, br_Tr, br_Fa, iI_s, iI_n, bI_q0, bI_q1, or_true, true_or, not_true_eq_false, not_false_eq_true, nI_l, ge64, Nat.lt_irrefl, Nat.add_sub_cancel, Nat.not_lt_zero, lN_0, lN_1e4, lN_1e6, lN_1e3, lN_add, lN_mul, lN_ltI, lN_leI, lN_eqI, lN_i, lcE, lcLe, lcLt, lN_div, q7, q12, q20, q99, q200, q999, q1e4, if_true, if_false, Nat.le_refl, q8, q11, q16, q18, q32, q44, q48, q57, q59, q97, q122, q900]
  exact q
theorem d33 {e : Nat × Nat} {K : Int32 → ax_M → Prop} (hk : mK μ 150 = 6) (h : FS μ e) (q : K (nI e.1) μ) : ax_CI l G 33 [ax_r (some 150)] μ K := by
  refine ax_Ct.of (by decide) (Nat.le_of_ble_eq_true rfl) (sg33_0 l G _ 150 _ ?_)
  try simp (disch := omega) only [hk, h.1, wr_s, in_nI, clN, ti_z, ti_l, true_and, and_true, kI, zI, rI, kL, zL, rL, kR, zR, nnI, nnL, nnR, iL, iR, lI, lR, exi, exl, exv, eq_self, nI_add, nI_mul, nI_sub, nI_ltI, nI_leI, nI_eq, q0, q1, q2, q3, q4, q5, q6, q10, q100, br_Tr, br_Fa, iI_s, iI_n, bI_q0, bI_q1, or_true, true_or, not_true_eq_false, not_false_eq_true, nI_l, ge64, Nat.lt_irrefl, Nat.add_sub_cancel, Nat.not_lt_zero, lN_0, lN_1e4, lN_1e6, lN_1e3, lN_add, lN_mul, lN_ltI, lN_leI, lN_eqI, lN_i, lcE, lcLe, lcLt, lN_div, q7, q12, q20, q99, q200, q999, q1e4, if_true, if_false, Nat.le_refl, q8, q11, q16, q18, q32, q44, q48, q57, q59, q97, q122, q900]
  exact q
theorem d34 {e : Nat × Nat} {K : Int32 → ax_M → Prop} (hk : mK μ 150 = 6) (h : gI μ 150 6 = nI e.2) (q : K (nI e.2) μ) : ax_CI l G 34 [ax_r (some 150)] μ K := by
  refine ax_Ct.of (by decide) (Nat.le_of_ble_eq_true rfl) (sg34_0 l G _ 150 _ ?_)
  try simp (disch := omega) only [hk, h, wr_s, in_nI, clN, ti_z, ti_l, true_and, and_true, kI, zI, rI, kL, zL, rL, kR, zR, nnI, nnL, nnR, iL, iR, lI, lR, exi, exl, exv, eq_self, nI_add, nI_mul, nI_sub, nI_ltI, nI_leI, nI_eq, q0, q1, q2, q3, q4, q5, q6, q10, q100, br_Tr, br_Fa, iI_s, iI_n, bI_q0, bI_q1, or_true, true_or, not_true_eq_false, not_false_eq_true, nI_l, ge64, Nat.lt_irrefl, Nat.add_sub_cancel, Nat.not_lt_zero, lN_0, lN_1e4, lN_1e6, lN_1e3, lN_add, lN_mul, lN_ltI, lN_leI, lN_eqI, lN_i, lcE, lcLe, lcLt, lN_div, q7, q12, q20, q99, q200, q999, q1e4, if_true, if_false, Nat.le_refl, q8, q11, q16, q18, q32, q44, q48, q57, q59, q97, q122, q900]
  exact q
theorem d212 {K : Int32 → ax_M → Prop} (hG : GC G) (ht : TpC μ p n) (hM : M = 66 ∨ M = 108) (hl : isLand μ M) (q : ∀ μ' v, FQ (PM M) (sR μ 150 2 (some M)) μ' → RR μ' v M n p (prs p n) → K v μ') : ax_CI l G 212 [ax_r (some 150), ax_r (some M), ax_i (nI n)] μ K := by
  have hn := ht.2.2.1
  have loop : ∀ f r, f + r = 901 → ∀ (μr : ax_M) (sr : PS), RS μr M n p sr → LI sr → FQ (PM M) (sR μ 150 2 (some M)) μr → (∀ μ' v, FQ (PM M) (sR μ 150 2 (some M)) μ' → RR μ' v M n p (rLs p n f sr) → K v μ') → (ax_Rw l G ax_h212 (ax_E G ax_h212 (fun x μ' => ∃ v : Int32, x = some (ax_i v) ∧ K v μ')) 34 [(0, ax_r (some 150)), (3, ax_i (nI r))] [] 0 0 μr) := by
    intro f
    induction f with
    | zero =>
      intro r hr μr sr hs hI fr q
      have : r = 901 := by omega
      subst this
      refine sg212_34 l G _ 150 _ _ ?_
      try simp (disch := omega) only [hs.1.1, hs.1.2.1.all, hs.2.1.1, hs.2.2.1.all, hs.2.2.2.2.1.1.all, hs.2.2.2.2.1.all, hs.2.2.2.2.2.1.1, hs.2.2.2.2.2.1.2, show ¬ (901 ≤ 900) by omega, wr_s, in_nI, clN, ti_z, ti_l, true_and, and_true, kI, zI, rI, kL, zL, rL, kR, zR, nnI, nnL, nnR, iL, iR, lI, lR, exi, exl, exv, eq_self, nI_add, nI_mul, nI_sub, nI_ltI, nI_leI, nI_eq, q0, q1, q2, q3, q4, q5, q6, q10, q100, br_Tr, br_Fa, iI_s, iI_n, bI_q0, bI_q1, or_true, true_or, not_true_eq_false, not_false_eq_true, nI_l, ge64, Nat.lt_irrefl, Nat.add_sub_cancel, Nat.not_lt_zero, lN_0, lN_1e4, lN_1e6, lN_1e3, lN_add, lN_mul, lN_ltI, lN_leI, lN_eqI, lN_i, lcE, lcLe, lcLt, lN_div, q7, q12, q20, q99, q200, q999, q1e4, if_true, if_false, Nat.le_refl, q8, q11, q16, q18, q32, q44, q48, q57, q59, q97, q122, q900]
      refine d32 hs (fun μ1 f1 h1 => ?_)
      try simp (disch := omega) only [wr_s, in_nI, clN, ti_z, ti_l, true_and, and_true, kI, zI, rI, kL, zL, rL, kR, zR, nnI, nnL, nnR, iL, iR, lI, lR, exi, exl, exv, eq_self, nI_add, nI_mul, nI_sub, nI_ltI, nI_leI, nI_eq, q0, q1, q2, q3, q4, q5, q6, q10, q100, br_Tr, br_Fa, iI_s, iI_n, bI_q0, bI_q1, or_true, true_or, not_true_eq_false, not_false_eq_true, nI_l, ge64, Nat.lt_irrefl, Nat.add_sub_cancel, Nat.not_lt_zero, lN_0, lN_1e4, lN_1e6, lN_1e3, lN_add, lN_mul, lN_ltI, lN_leI, lN_eqI, lN_i, lcE, lcLe, lcLt, lN_div, q7, q12, q20, q99, q200, q999, q1e4, if_true, if_false, Nat.le_refl, q8, q11, q16, q18, q32, q44, q48, q57, q59, q97, q122, q900]
      exact q _ _ (fr.trans (f1.mono (fun b q => by have q : b = 150 := q; omega))) ⟨rfl, h1⟩
    | succ f ih =>
      intro r hr μr sr hs hI fr q
      unfold rLs at q
      refine sg212_34 l G _ 150 _ _ ?_
      try simp (disch := omega) only [hs.1.1, hs.1.2.1.all, hs.2.1.1, hs.2.2.1.all, hs.2.2.2.2.1.1.all, hs.2.2.2.2.1.all, hs.2.2.2.2.2.1.1, hs.2.2.2.2.2.1.2, show r ≤ 900 by omega, wr_s, in_nI, clN, ti_z, ti_l, true_and, and_true, kI, zI, rI, kL, zL, rL, kR, zR, nnI, nnL, nnR, iL, iR, lI, lR, exi, exl, exv, eq_self, nI_add, nI_mul, nI_sub, nI_ltI, nI_leI, nI_eq, q0, q1, q2, q3, q4, q5, q6, q10, q100, br_Tr, br_Fa, iI_s, iI_n, bI_q0, bI_q1, or_true, true_or, not_true_eq_false, not_false_eq_true, nI_l, ge64, Nat.lt_irrefl, Nat.add_sub_cancel, Nat.not_lt_zero, lN_0, lN_1e4, lN_1e6, lN_1e3, lN_add, lN_mul, lN_ltI, lN_leI, lN_eqI, lN_i, lcE, lcLe, lcLt, lN_div, q7, q12, q20, q99, q200, q999, q1e4, if_true, if_false, Nat.le_refl, q8, q11, q16, q18, q32, q44, q48, q57, q59, q97, q122, q900]
      refine d196 hG hs hI.2 (fun μ1 v f1 h1 => ?_)
      have F1 := fr.trans f1
      cases e1 : rLn p n sr with
      | inl e0 =>
        rw [e1] at q h1
        obtain ⟨rfl, h1⟩ := h1
        try simp (disch := omega) only [wr_s, in_nI, clN, ti_z, ti_l, true_and, and_true, kI, zI, rI, kL, zL, rL, kR, zR, nnI, nnL, nnR, iL, iR, lI, lR, exi, exl, exv, eq_self, nI_add, nI_mul, nI_sub, nI_ltI, nI_leI, nI_eq, q0, q1, q2, q3, q4, q5, q6, q10, q100, br_Tr, br_Fa, iI_s, iI_n, bI_q0, bI_q1, or_true, true_or, not_true_eq_false, not_false_eq_true, nI_l, ge64, Nat.lt_irrefl, Nat.add_sub_cancel, Nat.not_lt_zero, lN_0, lN_1e4, lN_1e6, lN_1e3, lN_add, lN_mul, lN_ltI, lN_leI, lN_eqI, lN_i, lcE, lcLe, lcLt, lN_div, q7, q12, q20, q99, q200, q999, q1e4, if_true, if_false, Nat.le_refl, q8, q11, q16, q18, q32, q44, q48, q57, q59, q97, q122, q900]
        exact q _ _ F1 ⟨rfl, h1⟩
      | inr s1 =>
        rw [e1, bnd_r] at q
        rw [e1] at h1
        obtain ⟨rfl, h1⟩ := h1
        have hI1 := rLn_I hI e1
        have hb1 := h1.bd
        try simp (disch := omega) only [h1.1.1, h1.1.2.1.all, h1.2.1.1, h1.2.2.1.all, h1.2.2.2.2.1.1.all, h1.2.2.2.2.1.all, h1.2.2.2.2.2.1.1, h1.2.2.2.2.2.1.2, show ¬ (1 = 0) by omega, wr_s, in_nI, clN, ti_z, ti_l, true_and, and_true, kI, zI, rI, kL, zL, rL, kR, zR, nnI, nnL, nnR, iL, iR, lI, lR, exi, exl, exv, eq_self, nI_add, nI_mul, nI_sub, nI_ltI, nI_leI, nI_eq, q0, q1, q2, q3, q4, q5, q6, q10, q100, br_Tr, br_Fa, iI_s, iI_n, bI_q0, bI_q1, or_true, true_or, not_true_eq_false, not_false_eq_true, nI_l, ge64, Nat.lt_irrefl, Nat.add_sub_cancel, Nat.not_lt_zero, lN_0, lN_1e4, lN_1e6, lN_1e3, lN_add, lN_mul, lN_ltI, lN_leI, lN_eqI, lN_i, lcE, lcLe, lcLt, lN_div, q7, q12, q20, q99, q200, q999, q1e4, if_true, if_false, Nat.le_refl, q8, q11, q16, q18, q32, q44, q48, q57, q59, q97, q122, q900]
        refine ax_brc (fun c => ?_) (fun c => ?_)
        · rw [if_pos c] at q
          have h2 := h1.tl
          unfold rEn at q
          have F2 : FQ (PM M) (sR μ 150 2 (some M)) (sI μ1 M 8 (nI (nCh (pL s1)))) := F1.put (by omega)
          refine d36 h2 ?_
          rw [show isWl (pL (s1.1, tll (pL s1), s1.2.2)) = isWl (pL s1) from rfl]
          cases ew : isWl (pL s1)
          · rw [ew, if_neg Bool.false_ne_true] at q
            try simp (disch := omega) only [h1.1.1, h1.1.2.1.all, h1.2.1.1, h1.2.2.1.all, h1.2.2.2.2.1.1.all, h1.2.2.2.2.1.all, h1.2.2.2.2.2.1.1, h1.2.2.2.2.2.1.2, wr_s, in_nI, clN, ti_z, ti_l, true_and, and_true, kI, zI, rI, kL, zL, rL, kR, zR, nnI, nnL, nnR, iL, iR, lI, lR, exi, exl, exv, eq_self, nI_add, nI_mul, nI_sub, nI_ltI, nI_leI, nI_eq, q0, q1, q2, q3, q4, q5, q6, q10, q100, br_Tr, br_Fa, iI_s, iI_n, bI_q0, bI_q1, or_true, true_or, not_true_eq_false, not_false_eq_true, nI_l, ge64, Nat.lt_irrefl, Nat.add_sub_cancel, Nat.not_lt_zero, lN_0, lN_1e4, lN_1e6, lN_1e3, lN_add, lN_mul, lN_ltI, lN_leI, lN_eqI, lN_i, lcE, lcLe, lcLt, lN_div, q7, q12, q20, q99, q200, q999, q1e4, if_true, if_false, Nat.le_refl, q8, q11, q16, q18, q32, q44, q48, q57, q59, q97, q122, q900]
            refine d32 h2 (fun μ3 f3 h3 => ?_)
            try simp (disch := omega) only [wr_s, in_nI, clN, ti_z, ti_l, true_and, and_true, kI, zI, rI, kL, zL, rL, kR, zR, nnI, nnL, nnR, iL, iR, lI, lR, exi, exl, exv, eq_self, nI_add, nI_mul, nI_sub, nI_ltI, nI_leI, nI_eq, q0, q1, q2, q3, q4, q5, q6, q10, q100, br_Tr, br_Fa, iI_s, iI_n, bI_q0, bI_q1, or_true, true_or, not_true_eq_false, not_false_eq_true, nI_l, ge64, Nat.lt_irrefl, Nat.add_sub_cancel, Nat.not_lt_zero, lN_0, lN_1e4, lN_1e6, lN_1e3, lN_add, lN_mul, lN_ltI, lN_leI, lN_eqI, lN_i, lcE, lcLe, lcLt, lN_div, q7, q12, q20, q99, q200, q999, q1e4, if_true, if_false, Nat.le_refl, q8, q11, q16, q18, q32, q44, q48, q57, q59, q97, q122, q900]
            exact q _ _ (F2.trans (f3.mono (fun b q => by have q : b = 150 := q; omega))) ⟨rfl, h3⟩
          · rw [ew, if_pos rfl] at q
            try simp (disch := omega) only [wr_s, in_nI, clN, ti_z, ti_l, true_and, and_true, kI, zI, rI, kL, zL, rL, kR, zR, nnI, nnL, nnR, iL, iR, lI, lR, exi, exl, exv, eq_self, nI_add, nI_mul, nI_sub, nI_ltI, nI_leI, nI_eq, q0, q1, q2, q3, q4, q5, q6, q10, q100, br_Tr, br_Fa, iI_s, iI_n, bI_q0, bI_q1, or_true, true_or, not_true_eq_false, not_false_eq_true, nI_l, ge64, Nat.lt_irrefl, Nat.add_sub_cancel, Nat.not_lt_zero, lN_0, lN_1e4, lN_1e6, lN_1e3, lN_add, lN_mul, lN_ltI, lN_leI, lN_eqI, lN_i, lcE, lcLe, lcLt, lN_div, q7, q12, q20, q99, q200, q999, q1e4, if_true, if_false, Nat.le_refl, q8, q11, q16, q18, q32, q44, q48, q57, q59, q97, q122, q900]
            refine ax_brf (by decide) ?_
            exact q _ _ F2 ⟨rfl, h2⟩
        · rw [if_neg c] at q
          refine ax_brc (fun c3 => ?_) (fun c3 => ?_)
          · rw [if_pos c3] at q
            refine e105 h1 (fun μ2 f2 h2 => ?_)
            exact ih (r + 1) (by omega) μ2 _ h2 hI1 (F1.trans (f2.mono (fun b q => by have q : b = 155 := q; omega))) q
          · rw [if_neg c3] at q
            refine d32 h1 (fun μ3 f3 h3 => ?_)
            try simp (disch := omega) only [wr_s, in_nI, clN, ti_z, ti_l, true_and, and_true, kI, zI, rI, kL, zL, rL, kR, zR, nnI, nnL, nnR, iL, iR, lI, lR, exi, exl, exv, eq_self, nI_add, nI_mul, nI_sub, nI_ltI, nI_leI, nI_eq, q0, q1, q2, q3, q4, q5, q6, q10, q100, br_Tr, br_Fa, iI_s, iI_n, bI_q0, bI_q1, or_true, true_or, not_true_eq_false, not_false_eq_true, nI_l, ge64, Nat.lt_irrefl, Nat.add_sub_cancel, Nat.not_lt_zero, lN_0, lN_1e4, lN_1e6, lN_1e3, lN_add, lN_mul, lN_ltI, lN_leI, lN_eqI, lN_i, lcE, lcLe, lcLt, lN_div, q7, q12, q20, q99, q200, q999, q1e4, if_true, if_false, Nat.le_refl, q8, q11, q16, q18, q32, q44, q48, q57, q59, q97, q122, q900]
            exact q _ _ (F1.trans (f3.mono (fun b q => by have q : b = 150 := q; omega))) ⟨rfl, h3⟩
  have hr := ht.2.1
  refine ax_Ct.of (by decide) (Nat.le_of_ble_eq_true rfl) (sg212_0 l G _ 150 M _ _ ?_)
  try simp (disch := omega) only [hr.all, hl.all, rR_s, rR_n, wr_s, in_nI, clN, ti_z, ti_l, true_and, and_true, kI, zI, rI, kL, zL, rL, kR, zR, nnI, nnL, nnR, iL, iR, lI, lR, exi, exl, exv, eq_self, nI_add, nI_mul, nI_sub, nI_ltI, nI_leI, nI_eq, q0, q1, q2, q3, q4, q5, q6, q10, q100, br_Tr, br_Fa, iI_s, iI_n, bI_q0, bI_q1, or_true, true_or, not_true_eq_false, not_false_eq_true, nI_l, ge64, Nat.lt_irrefl, Nat.add_sub_cancel, Nat.not_lt_zero, lN_0, lN_1e4, lN_1e6, lN_1e3, lN_add, lN_mul, lN_ltI, lN_leI, lN_eqI, lN_i, lcE, lcLe, lcLt, lN_div, q7, q12, q20, q99, q200, q999, q1e4, if_true, if_false, Nat.le_refl, q8, q11, q16, q18, q32, q44, q48, q57, q59, q97, q122, q900]
  refine d18 (by rw [kR]; exact hl.k) (by omega) (fun μ1 f1 h1 => ?_)
  have hr1 := (rd_r2 (x := some M) hr).fq f1
  try simp (disch := omega) only [hr1.all, wr_s, in_nI, clN, ti_z, ti_l, true_and, and_true, kI, zI, rI, kL, zL, rL, kR, zR, nnI, nnL, nnR, iL, iR, lI, lR, exi, exl, exv, eq_self, nI_add, nI_mul, nI_sub, nI_ltI, nI_leI, nI_eq, q0, q1, q2, q3, q4, q5, q6, q10, q100, br_Tr, br_Fa, iI_s, iI_n, bI_q0, bI_q1, or_true, true_or, not_true_eq_false, not_false_eq_true, nI_l, ge64, Nat.lt_irrefl, Nat.add_sub_cancel, Nat.not_lt_zero, lN_0, lN_1e4, lN_1e6, lN_1e3, lN_add, lN_mul, lN_ltI, lN_leI, lN_eqI, lN_i, lcE, lcLe, lcLt, lN_div, q7, q12, q20, q99, q200, q999, q1e4, if_true, if_false, Nat.le_refl, q8, q11, q16, q18, q32, q44, q48, q57, q59, q97, q122, q900]
  refine d28 hr1.all.2.2.2.1 ?_
  try simp (disch := omega) only [hr1.all, wr_s, in_nI, clN, ti_z, ti_l, true_and, and_true, kI, zI, rI, kL, zL, rL, kR, zR, nnI, nnL, nnR, iL, iR, lI, lR, exi, exl, exv, eq_self, nI_add, nI_mul, nI_sub, nI_ltI, nI_leI, nI_eq, q0, q1, q2, q3, q4, q5, q6, q10, q100, br_Tr, br_Fa, iI_s, iI_n, bI_q0, bI_q1, or_true, true_or, not_true_eq_false, not_false_eq_true, nI_l, ge64, Nat.lt_irrefl, Nat.add_sub_cancel, Nat.not_lt_zero, lN_0, lN_1e4, lN_1e6, lN_1e3, lN_add, lN_mul, lN_ltI, lN_leI, lN_eqI, lN_i, lcE, lcLe, lcLt, lN_div, q7, q12, q20, q99, q200, q999, q1e4, if_true, if_false, Nat.le_refl, q8, q11, q16, q18, q32, q44, q48, q57, q59, q97, q122, q900]
  have f2 : FQ (PM M) μ1 (sI (sI μ1 151 3 (nI 0)) 150 5 (nI 0)) := ((FQ.refl (PM M) _).put (by omega)).put (by omega)
  have ht0 : TpC (sR μ 150 2 (some M)) p n := ⟨ht.1, rd_r2 ht.2.1, ht.2.2⟩
  have ht2 : TpC (sI (sI μ1 151 3 (nI 0)) 150 5 (nI 0)) p n := (ht0.fq f1 (by omega)).fq f2 (by omega)
  refine d147 ht2 (fun μ3 f3 h3 => ?_)
  have F3 : FQ (PM M) (sR μ 150 2 (some M)) μ3 := ((f1.mono (P' := PM M) (fun b q => by have q : b = M := q; omega)).trans f2).trans (f3.mono (fun b q => by have q : b = 155 := q; omega))
  refine loop 901 0 (by omega) μ3 _ ⟨ht2.fq f3 (by decide), ⟨?_, hM⟩, h3, (adv_ok (Nat.zero_le _)).1, ⟨?_, fun k hk => ?_, fun t ht => absurd ht (Nat.not_lt_zero _), fun t ht => absurd ht (Nat.not_lt_zero _), fun t ht => absurd ht (Nat.not_lt_zero _), fun t ht => absurd ht (Nat.not_lt_zero _)⟩, ⟨?_, fun i hi => absurd hi (Nat.not_lt_zero _)⟩, ⟨Nat.zero_le _, fun i hi => absurd hi (Nat.not_lt_zero _), fun i j hi => absurd hi (Nat.not_lt_zero _)⟩, ⟨Nat.zero_le 12, Nat.zero_le 4, Nat.zero_le 8, Nat.zero_le 16, Nat.zero_le 3, Nat.zero_le 3⟩⟩ (LI_0 _) F3 q
  · rw [F3.R, rR_s]
  · exact (hl.sR (b := 150) (by omega)).fq F3
  · rw [f3.I (by omega), iI_n (by omega), iI_n (by omega)]
    exact h1 k hk
  · rw [f3.I (by omega), iI_n (by omega)]
    exact iI_s _ _ _ _
end T8
