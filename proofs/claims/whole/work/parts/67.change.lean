/-! changes that come and go -/
def adf (t m h b f : Nat) : Nat := if f = 0 then t else if f = 1 then m else if f = 2 then h else b
def adc (a : Ld) (t m h b : Nat) : Ld := ((fun k => if k = 3 then a.1 3 + 1 else a.1 k), a.2.1, (fun k f => if k = a.1 3 then adf t m h b f else a.2.2.1 k f), a.2.2.2)
def dpc (a : Ld) : Ld := ((fun k => if k = 3 then a.1 3 - 1 else a.1 k), a.2)
theorem adc_ok {a : Ld} (ha : LdOk a) {t m h b : Nat} (ht : t < nTh a) (h1 : 1 ≤ m) (hm : m < nMo a) (hh : h ≤ 6) (hb : h ≤ 4 → 1 ≤ b ∧ b ≤ 999) (hc : nCh a < 20) : LdOk (adc a t m h b) := by
  obtain ⟨a1, a2, a3, a4, a5, a6, a7, a8, a9⟩ := ha
  refine ⟨a1, a2, a3, ⟨?_, ?_⟩, a5, a6, a7, fun k hk => ?_, a9⟩
  · show a.1 3 + 1 ≤ 20
    exact hc
  · show a.1 4 ≤ a.1 3 + 1
    exact Nat.le_succ_of_le a4.2
  · have hk : k < a.1 3 + 1 := hk
    by_cases e : k = a.1 3
    · subst e
      show (if a.1 3 = a.1 3 then adf t m h b 0 else _) < _ ∧ (1 ≤ (if a.1 3 = a.1 3 then adf t m h b 1 else _) ∧ (if a.1 3 = a.1 3 then adf t m h b 1 else _) ≤ 11) ∧ (if a.1 3 = a.1 3 then adf t m h b 2 else _) ≤ 6 ∧ ((if a.1 3 = a.1 3 then adf t m h b 2 else _) ≤ 4 → 1 ≤ (if a.1 3 = a.1 3 then adf t m h b 3 else _) ∧ (if a.1 3 = a.1 3 then adf t m h b 3 else _) ≤ 999)
      simp only [if_true]
      exact ⟨ht, ⟨h1, by have : m ≤ 11 := by omega
                         exact this⟩, hh, hb⟩
    · have q := a8 k (show k < a.1 3 by omega)
      show (if k = a.1 3 then _ else a.2.2.1 k 0) < _ ∧ (1 ≤ (if k = a.1 3 then _ else a.2.2.1 k 1) ∧ (if k = a.1 3 then _ else a.2.2.1 k 1) ≤ 11) ∧ (if k = a.1 3 then _ else a.2.2.1 k 2) ≤ 6 ∧ ((if k = a.1 3 then _ else a.2.2.1 k 2) ≤ 4 → 1 ≤ (if k = a.1 3 then _ else a.2.2.1 k 3) ∧ (if k = a.1 3 then _ else a.2.2.1 k 3) ≤ 999)
      simp only [if_neg e]
      exact q
theorem dpc_ok {a : Ld} (ha : LdOk a) (h : nTo a < nCh a) : LdOk (dpc a) := by
  obtain ⟨a1, a2, a3, a4, a5, a6, a7, a8, a9⟩ := ha
  refine ⟨a1, a2, a3, ⟨?_, ?_⟩, a5, a6, a7, fun k hk => a8 k ?_, a9⟩
  · show nCh a - 1 ≤ 20
    omega
  · show nTo a ≤ nCh a - 1
    omega
  · have hk : k < nCh a - 1 := hk
    show k < nCh a
    omega
def sLd (st : St) (a : Ld) : St := (st.1, st.2.1, st.2.2.1, st.2.2.2.1, st.2.2.2.2.1, some a)
theorem cnt20 {a : Ld} (ha : LdOk a) : ∀ k, k < 7 → a.1 k ≤ 20 := by
  intro k hk
  have hb := ha.bd
  have : k = 0 ∨ k = 1 ∨ k = 2 ∨ k = 3 ∨ k = 4 ∨ k = 5 ∨ k = 6 := by omega
  rcases this with rfl | rfl | rfl | rfl | rfl | rfl | rfl
  · exact Nat.le_trans hb.2.1 (by decide)
  · exact Nat.le_trans hb.2.2.1 (by decide)
  · exact Nat.le_trans hb.2.2.2.2.1 (by decide)
  · exact hb.2.2.2.2.2.1
  · exact Nat.le_trans hb.2.2.2.2.2.2.1 hb.2.2.2.2.2.1
  · exact Nat.le_trans hb.2.2.2.2.2.2.2.2.1 (by decide)
  · exact Nat.le_trans hb.2.2.2.2.2.2.2.2.2.2 (by decide)
theorem XW.new {P : Nat → Nat → Prop} {μ μ1 : ax_M} {st : St} {L M : Nat} {a : Ld} (h : XW μ st L M) (f : Fr P μ μ1) (hp : ∀ b k, P b k → 66 ≤ b) (ht : TN μ1 237 156 L a) : XW μ1 (sLd st a) L M := by
  have hb := h.bd
  obtain ⟨hs, g1, g2, g3, g4, g5, g6⟩ := h
  refine ⟨hs.fr f, ?_, g2, fun e => ?_, fun i hi => ?_, fun k hk => ?_, fun a' ha' => ?_⟩
  · rw [f.I (fun q => by have := hp _ _ q; omega), f.I (fun q => by have := hp _ _ q; omega), f.I (fun q => by have := hp _ _ q; omega)]
    exact g1
  · rw [f.I (fun q => by have := hp _ _ q; omega)]
    exact g3 e
  · rw [f.I (fun q => by have := hp _ _ q; omega)]
    exact g4 i hi
  · exact ⟨ht.1.1.1.1.1.2.2.2.1.2.1 k hk, cnt20 ht.1.1.1.1.1.1 k hk⟩
  · cases ha'; exact ht
theorem sR_same {μ : ax_M} {b k : Nat} {x : Option Nat} (h : gR μ b k = x) : sR μ b k x = μ := by
  obtain ⟨n, kz, i, lo, r⟩ := μ
  unfold sR
  congr 1
  congr 1
  congr 1
  congr 1
  funext c j
  simp only [ax_u2]
  split
  · rename_i e
    rw [e.1, e.2]
    exact h.symm
  · rfl
def Pch (L n : Nat) (b k : Nat) : Prop := b = L + 13 + n ∨ (b = L ∧ k = 7)
section E4
variable {l : Launch} {G : ax_G} {μ : ax_M} {L M : Nat} {st : St} {a : Ld}
theorem q7 : (7 : Int32) = nI 7 := by decide +kernel
theorem q99 : (99 : Int32) = nI 99 := by decide +kernel
theorem d16 {t m h b : Nat} {v : Int32} {K : ax_M → Prop} (ha : LdOk a) (hl : RepL μ L a) (hc : nCh a < 20) (hv : h ≤ 4 → v = nI b) (q : ∀ μ', Fr (Pch L (nCh a)) μ μ' → RepL μ' L (adc a t m h b) → K μ') : ax_CV l G 16 [ax_r (some L), ax_i (nI t), ax_i (nI m), ax_i (nI h), ax_i v] μ K := by
  have hb := ha.bd
  have hg := hl.1.ge
  refine ax_Ct.of (by decide) (Nat.le_of_ble_eq_true rfl) (sg16_0 l G _ L _ _ _ _ _ ?_)
  try simp (disch := omega) only [hl.1.all, hl.all, q20, hc, wr_s, in_nI, clN, ti_z, ti_l, true_and, and_true, kI, zI, rI, kL, zL, rL, kR, zR, nnI, nnL, nnR, iL, iR, lI, lR, exi, exl, exv, eq_self, nI_add, nI_mul, nI_sub, nI_ltI, nI_leI, nI_eq, q0, q1, q2, q3, q4, q5, q6, q10, q100, br_Tr, br_Fa, iI_s, iI_n, bI_q0, bI_q1, or_true, true_or, not_true_eq_false, not_false_eq_true, nI_l, ge64, Nat.lt_irrefl, Nat.add_sub_cancel, Nat.not_lt_zero, lN_0, lN_1e4, lN_1e6, lN_1e3, lN_add, lN_mul, lN_ltI, lN_leI, lN_eqI, lN_i, lcE, lcLe, lcLt, lN_div]
  have f : Fr (Pch L (nCh a)) μ (sI (sI (sI (sI (sI μ (L + 13 + nCh a) 0 (nI t)) (L + 13 + nCh a) 1 (nI m)) (L + 13 + nCh a) 2 (nI h)) (L + 13 + nCh a) 3 v) L 7 (nI (nCh a + 1))) := (((((Fr.refl _ _).put (Or.inl rfl)).put (Or.inl rfl)).put (Or.inl rfl)).put (Or.inl rfl)).put (Or.inr ⟨rfl, rfl⟩)
  refine q _ f ?_
  obtain ⟨h0, h1, h2, h3, h4, h5⟩ := hl
  refine ⟨h0.fr f, fun k hk => ?_, fun t ht f' hf => ?_, fun k hk => ?_, fun k hk => ⟨?_, ?_, fun g hg => ?_⟩, fun o ho f' hf => ?_⟩
  · by_cases e : k = 3
    · subst e; exact iI_s _ _ _ _
    · rw [f.I (by unfold Pch; omega), h1 k hk]
      show _ = nI (if k = 3 then _ else a.1 k)
      rw [if_neg e]
  · rw [f.I (by unfold Pch; have : t < nTh a := ht; omega)]; exact h2 t ht f' hf
  · have hk : k < nCh a + 1 := hk
    by_cases e : k = nCh a
    · subst e
      refine ⟨fun f' hf => ?_, fun hh => ?_⟩
      · show _ = nI (if a.1 3 = a.1 3 then adf t m h b f' else _)
        rw [if_pos rfl]
        have : f' = 0 ∨ f' = 1 ∨ f' = 2 := by omega
        rcases this with rfl | rfl | rfl
        · try simp (disch := omega) only [wr_s, in_nI, clN, ti_z, ti_l, true_and, and_true, kI, zI, rI, kL, zL, rL, kR, zR, nnI, nnL, nnR, iL, iR, lI, lR, exi, exl, exv, eq_self, nI_add, nI_mul, nI_sub, nI_ltI, nI_leI, nI_eq, q0, q1, q2, q3, q4, q5, q6, q10, q100, br_Tr, br_Fa, iI_s, iI_n, bI_q0, bI_q1, or_true, true_or, not_true_eq_false, not_false_eq_true, nI_l, ge64, Nat.lt_irrefl, Nat.add_sub_cancel, Nat.not_lt_zero, lN_0, lN_1e4, lN_1e6, lN_1e3, lN_add, lN_mul, lN_ltI, lN_leI, lN_eqI, lN_i, lcE, lcLe, lcLt, lN_div]; rfl
        · try simp (disch := omega) only [wr_s, in_nI, clN, ti_z, ti_l, true_and, and_true, kI, zI, rI, kL, zL, rL, kR, zR, nnI, nnL, nnR, iL, iR, lI, lR, exi, exl, exv, eq_self, nI_add, nI_mul, nI_sub, nI_ltI, nI_leI, nI_eq, q0, q1, q2, q3, q4, q5, q6, q10, q100, br_Tr, br_Fa, iI_s, iI_n, bI_q0, bI_q1, or_true, true_or, not_true_eq_false, not_false_eq_true, nI_l, ge64, Nat.lt_irrefl, Nat.add_sub_cancel, Nat.not_lt_zero, lN_0, lN_1e4, lN_1e6, lN_1e3, lN_add, lN_mul, lN_ltI, lN_leI, lN_eqI, lN_i, lcE, lcLe, lcLt, lN_div]; rfl
        · try simp (disch := omega) only [wr_s, in_nI, clN, ti_z, ti_l, true_and, and_true, kI, zI, rI, kL, zL, rL, kR, zR, nnI, nnL, nnR, iL, iR, lI, lR, exi, exl, exv, eq_self, nI_add, nI_mul, nI_sub, nI_ltI, nI_leI, nI_eq, q0, q1, q2, q3, q4, q5, q6, q10, q100, br_Tr, br_Fa, iI_s, iI_n, bI_q0, bI_q1, or_true, true_or, not_true_eq_false, not_false_eq_true, nI_l, ge64, Nat.lt_irrefl, Nat.add_sub_cancel, Nat.not_lt_zero, lN_0, lN_1e4, lN_1e6, lN_1e3, lN_add, lN_mul, lN_ltI, lN_leI, lN_eqI, lN_i, lcE, lcLe, lcLt, lN_div]; rfl
      · have hh : (if a.1 3 = a.1 3 then adf t m h b 2 else _) ≤ 4 := hh
        rw [if_pos rfl] at hh
        show _ = nI (if a.1 3 = a.1 3 then adf t m h b 3 else _)
        rw [if_pos rfl]
        try simp (disch := omega) only [wr_s, in_nI, clN, ti_z, ti_l, true_and, and_true, kI, zI, rI, kL, zL, rL, kR, zR, nnI, nnL, nnR, iL, iR, lI, lR, exi, exl, exv, eq_self, nI_add, nI_mul, nI_sub, nI_ltI, nI_leI, nI_eq, q0, q1, q2, q3, q4, q5, q6, q10, q100, br_Tr, br_Fa, iI_s, iI_n, bI_q0, bI_q1, or_true, true_or, not_true_eq_false, not_false_eq_true, nI_l, ge64, Nat.lt_irrefl, Nat.add_sub_cancel, Nat.not_lt_zero, lN_0, lN_1e4, lN_1e6, lN_1e3, lN_add, lN_mul, lN_ltI, lN_leI, lN_eqI, lN_i, lcE, lcLe, lcLt, lN_div]
        exact hv hh
    · refine ⟨fun f' hf => ?_, fun hh => ?_⟩
      · rw [f.I (by unfold Pch; omega), (h3 k (by omega)).1 f' hf]
        show _ = nI (if k = a.1 3 then _ else a.2.2.1 k f')
        rw [if_neg e]
      · have hh : (if k = a.1 3 then _ else a.2.2.1 k 2) ≤ 4 := hh
        rw [if_neg e] at hh
        rw [f.I (by unfold Pch; omega), (h3 k (by omega)).2 hh]
        show _ = nI (if k = a.1 3 then _ else a.2.2.1 k 3)
        rw [if_neg e]
  · have : k < nHo a := hk
    rw [f.I (by unfold Pch; omega)]; exact (h4 k hk).1
  · have : k < nHo a := hk
    rw [f.I (by unfold Pch; omega)]; exact (h4 k hk).2.1
  · have : k < nHo a := hk
    rw [f.I (by unfold Pch; omega)]; exact (h4 k hk).2.2 g hg
  · have : o < nOf a := ho
    rw [f.I (by unfold Pch; omega)]; exact h5 o ho f' hf
theorem d17 {n : Nat} {K : ax_M → Prop} (hk : mK μ L = 3) (h64 : 64 ≤ L) (hn : gI μ L 7 = nI (n + 1)) (hn2 : n < 100) (q : K (sI μ L 7 (nI n))) : ax_CV l G 17 [ax_r (some L)] μ K := by
  refine ax_Ct.of (by decide) (Nat.le_of_ble_eq_true rfl) (sg17_0 l G _ L _ ?_)
  try simp (disch := omega) only [hk, hn, show ¬ (n + 1 ≤ 0) by omega, wr_s, in_nI, clN, ti_z, ti_l, true_and, and_true, kI, zI, rI, kL, zL, rL, kR, zR, nnI, nnL, nnR, iL, iR, lI, lR, exi, exl, exv, eq_self, nI_add, nI_mul, nI_sub, nI_ltI, nI_leI, nI_eq, q0, q1, q2, q3, q4, q5, q6, q10, q100, br_Tr, br_Fa, iI_s, iI_n, bI_q0, bI_q1, or_true, true_or, not_true_eq_false, not_false_eq_true, nI_l, ge64, Nat.lt_irrefl, Nat.add_sub_cancel, Nat.not_lt_zero, lN_0, lN_1e4, lN_1e6, lN_1e3, lN_add, lN_mul, lN_ltI, lN_leI, lN_eqI, lN_i, lcE, lcLe, lcLt, lN_div]
  exact q
theorem RepL.dp (hl : RepL μ L a) (ha : LdOk a) (h : 1 ≤ nCh a) : RepL (sI μ L 7 (nI (nCh a - 1))) L (dpc a) := by
  have hb := ha.bd
  have f : Fr (fun b k => b = L ∧ k = 7) μ (sI μ L 7 (nI (nCh a - 1))) := (Fr.refl _ _).put ⟨rfl, rfl⟩
  obtain ⟨h0, h1, h2, h3, h4, h5⟩ := hl
  refine ⟨h0.fr f, fun k hk => ?_, fun t ht f' hf => ?_, fun k hk => ⟨fun f' hf => ?_, fun hh => ?_⟩, fun k hk => ⟨?_, ?_, fun g hg => ?_⟩, fun o ho f' hf => ?_⟩
  · by_cases e : k = 3
    · subst e; exact iI_s _ _ _ _
    · rw [f.I (by omega), h1 k hk]
      show _ = nI (if k = 3 then _ else a.1 k)
      rw [if_neg e]
  · rw [f.I (by omega)]; exact h2 t ht f' hf
  · have hk : k < nCh a - 1 := hk
    rw [f.I (by omega)]; exact (h3 k (by omega)).1 f' hf
  · have hk : k < nCh a - 1 := hk
    rw [f.I (by omega)]; exact (h3 k (by omega)).2 hh
  · rw [f.I (by omega)]; exact (h4 k hk).1
  · rw [f.I (by omega)]; exact (h4 k hk).2.1
  · rw [f.I (by omega)]; exact (h4 k hk).2.2 g hg
  · rw [f.I (by omega)]; exact h5 o ho f' hf
def aChange (st : St) (x y z w : Int32) : Int32 × St := cond ((inN x (cn st 2) && inL y (cn st 0)) && inN z 7) (cond (decide (z ≤ nI 4) && !inK w 999) (-nI 1, sT st 2) (if cn st 3 < 20 then (nI (cn st 3 + 1), sLd (sT st 0) (adc (ldo st) (cl x) (cl y) (cl z) (if cl z ≤ 4 then cl w else 0))) else (-nI 1, sT st 3))) (-nI 1, sT st 1)
theorem inK_br {x : Int32} {n : Nat} {A B : Prop} (t : inK x n = true → A) (f : inK x n = false → B) : ax_br (x < nI 1) B (ax_br (x ≤ nI n) A B) := by
  refine ax_brc (fun h => f ?_) (fun h => ax_brc (fun h2 => t ?_) (fun h2 => f ?_))
  · unfold inK; rw [decide_eq_false (fun q => q h)]; rfl
  · unfold inK; rw [decide_eq_true h, decide_eq_true h2]; rfl
  · unfold inK; rw [decide_eq_false h2, Bool.and_false]
theorem p206 {x y z w : Int32} {K : Int32 → ax_M → Prop} (hx : X μ st) (q : ∀ μ', Out 64 332 μ μ' → X μ' (aChange st x y z w).2 → K (aChange st x y z w).1 μ') : ax_CI l G 206 [ax_r (some 64), ax_i x, ax_i y, ax_i z, ax_i w] μ K := by
  obtain ⟨L, M, hx⟩ := hx
  have hb := hx.bd
  unfold aChange at q
  have fin : ∀ b : Bool, b = ((inN x (cn st 2) && inL y (cn st 0)) && inN z 7) → (ax_Rw l G ax_h206 (ax_E G ax_h206 (fun x μ' => ∃ v : Int32, x = some (ax_i v) ∧ K v μ')) 38 [(0, ax_r (some 64)), (1, ax_i x), (2, ax_i y), (3, ax_i z), (4, ax_i w)] [ax_i (bI b), ax_r (some 64)] 0 0 μ) := by
    intro b hbb
    rw [← hbb] at q
    refine sg206_38 l G _ 64 _ _ _ _ _ _ _ ?_
    try simp (disch := omega) only [hx.all, wr_s, in_nI, clN, ti_z, ti_l, true_and, and_true, kI, zI, rI, kL, zL, rL, kR, zR, nnI, nnL, nnR, iL, iR, lI, lR, exi, exl, exv, eq_self, nI_add, nI_mul, nI_sub, nI_ltI, nI_leI, nI_eq, q0, q1, q2, q3, q4, q5, q6, q10, q100, br_Tr, br_Fa, iI_s, iI_n, bI_q0, bI_q1, or_true, true_or, not_true_eq_false, not_false_eq_true, nI_l, ge64, Nat.lt_irrefl, Nat.add_sub_cancel, Nat.not_lt_zero, lN_0, lN_1e4, lN_1e6, lN_1e3, lN_add, lN_mul, lN_ltI, lN_leI, lN_eqI, lN_i, lcE, lcLe, lcLt, lN_div]
    refine d3 hx.all.1.1 ?_
    have hx' := hx.q (b := b)
    try simp (disch := omega) only [hx.all, q20, q999, wr_s, in_nI, clN, ti_z, ti_l, true_and, and_true, kI, zI, rI, kL, zL, rL, kR, zR, nnI, nnL, nnR, iL, iR, lI, lR, exi, exl, exv, eq_self, nI_add, nI_mul, nI_sub, nI_ltI, nI_leI, nI_eq, q0, q1, q2, q3, q4, q5, q6, q10, q100, br_Tr, br_Fa, iI_s, iI_n, bI_q0, bI_q1, or_true, true_or, not_true_eq_false, not_false_eq_true, nI_l, ge64, Nat.lt_irrefl, Nat.add_sub_cancel, Nat.not_lt_zero, lN_0, lN_1e4, lN_1e6, lN_1e3, lN_add, lN_mul, lN_ltI, lN_leI, lN_eqI, lN_i, lcE, lcLe, lcLt, lN_div]
    cases b
    · exact ax_brt rfl (q _ ((Out.refl _ _ _).I (by omega) (by omega)) ⟨L, M, hx'⟩)
    · refine ax_brf (by decide) ?_
      have hbb := hbb.symm
      simp only [Bool.and_eq_true] at hbb
      obtain ⟨t, ht, rfl⟩ := inN_t (by omega) hbb.1.1
      obtain ⟨m, hm1, hm2, rfl⟩ := inL_t (by omega) hbb.1.2
      obtain ⟨h, hh, rfl⟩ := inN_t (by omega) hbb.2
      obtain ⟨hn, he⟩ := hx.tn ht
      have hn9 := hn.t9 (v := nI (!true).toNat) (by omega)
      have hba := hn.bd
      have ha := hn.1.1.1.1.1.1
      rw [cl_nI (by omega), cl_nI (by omega), cl_nI (by omega)] at q
      have two : (decide (nI h ≤ nI 4) && !inK w 999) = true → ax_CI l G 5 [ax_r (some 64), ax_i (nI 2)] (sI μ 64 9 (nI (!true).toNat)) (fun y6 m5 => K y6 m5) := by
        intro hk
        rw [hk] at q
        refine d5 hx'.all.1.1 ?_
        rw [sI_sI]
        exact (q _ ((Out.refl _ _ _).I (by omega) (by omega)) ⟨L, M, hx.tr (t := 2) (by decide) (by decide)⟩)
      have room : (decide (nI h ≤ nI 4) && !inK w 999) = false → (h ≤ 4 → inK w 999 = true) → ax_br (cn st 3 < 20) (ax_CV l G 16 [ax_r (some L), ax_i (nI t), ax_i (nI m), ax_i (nI h), ax_i w] (sI μ 64 9 (nI (!true).toNat)) (fun m8 => mK m8 64 = 10 ∧ mK m8 64 = 10 ∧ ax_wr (gR m8 64 5) fun a9 => mK m8 a9 = 7 ∧ ax_CV l G 199 [ax_r (some a9), ax_r (gR m8 64 1)] m8 fun m10 => mK m10 64 = 10 ∧ ax_wr (gR m10 64 1) fun a11 => mK m10 a11 = 3 ∧ K (gI m10 a11 7) m10))
          (ax_CI l G 5 [ax_r (some 64), ax_i (nI 3)] (sI μ 64 9 (nI (!true).toNat)) (fun y6 m5 => K y6 m5)) := by
        intro hk hw
        rw [hk] at q
        refine ax_brc (fun hc => ?_) (fun hc => ?_)
        · rw [if_pos hc] at q
          have hv : h ≤ 4 → w = nI (if h ≤ 4 then cl w else 0) := by
            intro h4
            have hw := hw h4
            rw [inK_L (by omega)] at hw
            obtain ⟨j, hj1, hj2, rfl⟩ := inL_t (by omega) hw
            rw [if_pos h4, cl_nI (by omega)]
          have hv2 : h ≤ 4 → 1 ≤ (if h ≤ 4 then cl w else 0) ∧ (if h ≤ 4 then cl w else 0) ≤ 999 := by
            intro h4
            have hw := hw h4
            rw [inK_L (by omega)] at hw
            obtain ⟨j, hj1, hj2, rfl⟩ := inL_t (by omega) hw
            rw [if_pos h4, cl_nI (by omega)]
            omega
          generalize (if h ≤ 4 then cl w else 0) = bb at q hv hv2
          have ha' := adc_ok (t := t) (m := m) (h := h) (b := bb) ha (by omega) hm1 (by omega) (by omega) hv2 (by omega)
          refine d16 ha hn9.1.1.1.1.1.2.2.2.1 (by omega) hv (fun μ1 f1 hr => ?_)
          have hx1 : XW (sI μ 64 9 (nI (!true).toNat)) (sT st 0) L M := hx'
          have hs1 := hx1.1.fr f1
          have hb2 := hb
          try simp (disch := omega) only [hs1.1.1, hs1.1.2.2.1, hs1.1.2.2.2.2.2.2.1, hs1.2.2.2.2.2.2.1.1.2.1, wr_s, in_nI, clN, ti_z, ti_l, true_and, and_true, kI, zI, rI, kL, zL, rL, kR, zR, nnI, nnL, nnR, iL, iR, lI, lR, exi, exl, exv, eq_self, nI_add, nI_mul, nI_sub, nI_ltI, nI_leI, nI_eq, q0, q1, q2, q3, q4, q5, q6, q10, q100, br_Tr, br_Fa, iI_s, iI_n, bI_q0, bI_q1, or_true, true_or, not_true_eq_false, not_false_eq_true, nI_l, ge64, Nat.lt_irrefl, Nat.add_sub_cancel, Nat.not_lt_zero, lN_0, lN_1e4, lN_1e6, lN_1e3, lN_add, lN_mul, lN_ltI, lN_leI, lN_eqI, lN_i, lcE, lcLe, lcLt, lN_div]
          refine d199 ha' hs1.2.2.2.2.2.1 hr hs1.2.2.2.2.2.2.1 (by omega) (by omega) (by omega) (fun μ2 f2 h2 => ?_)
          have e1 : gR μ1 237 4 = some L := by rw [f1.R]; exact hn9.1.2.2.1
          have e2 : gR μ1 156 8 = some L := by rw [f1.R]; exact hn9.1.1.1.1.1.2.2.1
          rw [sR_same e1, sR_same e2] at f2
          have hx2 := hx1.new ((f1.mono (P' := fun b k => Pch L (nCh (ldo st)) b k ∨ PC 156 b k ∨ PN 237 b k) (fun b k q => Or.inl q)).trans (f2.mono (fun b k q => Or.inr q))) (fun b k q => by unfold Pch PC PN at q; omega) h2
          try simp (disch := omega) only [hx2.all, wr_s, in_nI, clN, ti_z, ti_l, true_and, and_true, kI, zI, rI, kL, zL, rL, kR, zR, nnI, nnL, nnR, iL, iR, lI, lR, exi, exl, exv, eq_self, nI_add, nI_mul, nI_sub, nI_ltI, nI_leI, nI_eq, q0, q1, q2, q3, q4, q5, q6, q10, q100, br_Tr, br_Fa, iI_s, iI_n, bI_q0, bI_q1, or_true, true_or, not_true_eq_false, not_false_eq_true, nI_l, ge64, Nat.lt_irrefl, Nat.add_sub_cancel, Nat.not_lt_zero, lN_0, lN_1e4, lN_1e6, lN_1e3, lN_add, lN_mul, lN_ltI, lN_leI, lN_eqI, lN_i, lcE, lcLe, lcLt, lN_div]
          have hv7 : cn (sLd (sT st 0) (adc (ldo st) t m h bb)) 3 = cn st 3 + 1 := by rw [he.2.2.2.1]; rfl
          have q2 := q μ2 ((((Out.refl 64 332 μ).I (k := 9) (v := nI (!true).toNat) (Nat.le_refl 64) (by omega)).F f1 (fun b k q => by unfold Pch at q; omega)).F f2 (fun b k q => by unfold PC PN at q; omega)) ⟨L, M, hx2⟩
          rw [hv7]
          exact q2
        · rw [if_neg hc] at q
          refine d5 hx'.all.1.1 ?_
          rw [sI_sI]
          exact (q _ ((Out.refl _ _ _).I (by omega) (by omega)) ⟨L, M, hx.tr (t := 3) (by decide) (by decide)⟩)
      refine ax_brc (fun h4 => ?_) (fun h4 => room (by rw [decide_eq_false h4]; rfl) (fun q => absurd ((nI_leI (by omega) (by omega)).mpr q) h4))
      exact inK_br (fun hk => room (by rw [hk]; simp) (fun _ => hk)) (fun hk => two (by rw [decide_eq_true h4, hk]; rfl))
  refine ax_Ct.of (by decide) (Nat.le_of_ble_eq_true rfl) (sg206_0 l G _ 64 _ _ _ _ _ ?_)
  try simp (disch := omega) only [hx.all, wr_s, in_nI, clN, ti_z, ti_l, true_and, and_true, kI, zI, rI, kL, zL, rL, kR, zR, nnI, nnL, nnR, iL, iR, lI, lR, exi, exl, exv, eq_self, nI_add, nI_mul, nI_sub, nI_ltI, nI_leI, nI_eq, q0, q1, q2, q3, q4, q5, q6, q10, q100, br_Tr, br_Fa, iI_s, iI_n, bI_q0, bI_q1, or_true, true_or, not_true_eq_false, not_false_eq_true, nI_l, ge64, Nat.lt_irrefl, Nat.add_sub_cancel, Nat.not_lt_zero, lN_0, lN_1e4, lN_1e6, lN_1e3, lN_add, lN_mul, lN_ltI, lN_leI, lN_eqI, lN_i, lcE, lcLe, lcLt, lN_div]
  refine d25 hx.all.2.1.2.2.2.2.1 hx.all.2.2.2.2.2.1 ?_
  try simp (disch := omega) only [hx.all, wr_s, in_nI, clN, ti_z, ti_l, true_and, and_true, kI, zI, rI, kL, zL, rL, kR, zR, nnI, nnL, nnR, iL, iR, lI, lR, exi, exl, exv, eq_self, nI_add, nI_mul, nI_sub, nI_ltI, nI_leI, nI_eq, q0, q1, q2, q3, q4, q5, q6, q10, q100, br_Tr, br_Fa, iI_s, iI_n, bI_q0, bI_q1, or_true, true_or, not_true_eq_false, not_false_eq_true, nI_l, ge64, Nat.lt_irrefl, Nat.add_sub_cancel, Nat.not_lt_zero, lN_0, lN_1e4, lN_1e6, lN_1e3, lN_add, lN_mul, lN_ltI, lN_leI, lN_eqI, lN_i, lcE, lcLe, lcLt, lN_div]
  cases h1 : inN x (cn st 2)
  · exact ax_brt rfl (fin false (by rw [h1]; rfl))
  · refine ax_brf (by decide) ?_
    refine d22 hx.all.2.1.2.2.2.2.1 hx.all.2.2.2.1 ?_
    try simp (disch := omega) only [hx.all, wr_s, in_nI, clN, ti_z, ti_l, true_and, and_true, kI, zI, rI, kL, zL, rL, kR, zR, nnI, nnL, nnR, iL, iR, lI, lR, exi, exl, exv, eq_self, nI_add, nI_mul, nI_sub, nI_ltI, nI_leI, nI_eq, q0, q1, q2, q3, q4, q5, q6, q10, q100, br_Tr, br_Fa, iI_s, iI_n, bI_q0, bI_q1, or_true, true_or, not_true_eq_false, not_false_eq_true, nI_l, ge64, Nat.lt_irrefl, Nat.add_sub_cancel, Nat.not_lt_zero, lN_0, lN_1e4, lN_1e6, lN_1e3, lN_add, lN_mul, lN_ltI, lN_leI, lN_eqI, lN_i, lcE, lcLe, lcLt, lN_div]
    cases h2 : inL y (cn st 0)
    · exact ax_brt rfl (fin false (by rw [h1, h2]; rfl))
    · refine ax_brf (by decide) ?_
      rw [← inN3 (n := 6) (by omega)]
      exact inN_br (fun h => fin true (by rw [h1, h2, h]; rfl)) (fun h => fin false (by rw [h1, h2, h]; rfl))
def aUndo (st : St) : Bool × St := if cn st 3 ≤ cn st 4 then (false, sT st 6) else (true, sLd (sT st 0) (dpc (ldo st)))
theorem p211 {K : Int32 → ax_M → Prop} (hx : X μ st) (q : ∀ μ', Out 64 332 μ μ' → X μ' (aUndo st).2 → K (bI (aUndo st).1) μ') : ax_CI l G 211 [ax_r (some 64)] μ K := by
  obtain ⟨L, M, hx⟩ := hx
  have hb := hx.bd
  unfold aUndo at q
  refine ax_Ct.of (by decide) (Nat.le_of_ble_eq_true rfl) (sg211_0 l G _ 64 _ ?_)
  try simp (disch := omega) only [hx.all, wr_s, in_nI, clN, ti_z, ti_l, true_and, and_true, kI, zI, rI, kL, zL, rL, kR, zR, nnI, nnL, nnR, iL, iR, lI, lR, exi, exl, exv, eq_self, nI_add, nI_mul, nI_sub, nI_ltI, nI_leI, nI_eq, q0, q1, q2, q3, q4, q5, q6, q10, q100, br_Tr, br_Fa, iI_s, iI_n, bI_q0, bI_q1, or_true, true_or, not_true_eq_false, not_false_eq_true, nI_l, ge64, Nat.lt_irrefl, Nat.add_sub_cancel, Nat.not_lt_zero, lN_0, lN_1e4, lN_1e6, lN_1e3, lN_add, lN_mul, lN_ltI, lN_leI, lN_eqI, lN_i, lcE, lcLe, lcLt, lN_div]
  refine ax_brc (fun hc => ?_) (fun hc => ?_)
  · rw [if_pos hc] at q
    exact (q _ ((Out.refl _ _ _).I (by omega) (by omega)) ⟨L, M, hx.tr (t := 6) (by decide) (by decide)⟩)
  · rw [if_neg hc] at q
    obtain ⟨hn, he⟩ := hx.tn (show 0 < cn st 3 by omega)
    have hba := hn.bd
    have ha := hn.1.1.1.1.1.1
    have ha' := dpc_ok ha (by omega)
    refine d17 (n := nCh (ldo st) - 1) hx.all.2.1.2.2.2.2.1 (by omega) (by rw [hx.all.2.2.2.2.2.2.1, he.2.2.2.1]; congr 1; omega) (by omega) ?_
    have hr := hn.1.1.1.1.1.2.2.2.1.dp ha (by omega)
    have f1 : Fr (Pch L 0) μ (sI μ L 7 (nI (nCh (ldo st) - 1))) := (Fr.refl _ _).put (Or.inr ⟨rfl, rfl⟩)
    have hs1 := hx.1.fr f1
    generalize sI μ L 7 (nI (nCh (ldo st) - 1)) = μ1 at hr f1 hs1
    try simp (disch := omega) only [hs1.1.1, hs1.1.2.2.1, hs1.1.2.2.2.2.2.2.1, hs1.2.2.2.2.2.2.1.1.2.1, wr_s, in_nI, clN, ti_z, ti_l, true_and, and_true, kI, zI, rI, kL, zL, rL, kR, zR, nnI, nnL, nnR, iL, iR, lI, lR, exi, exl, exv, eq_self, nI_add, nI_mul, nI_sub, nI_ltI, nI_leI, nI_eq, q0, q1, q2, q3, q4, q5, q6, q10, q100, br_Tr, br_Fa, iI_s, iI_n, bI_q0, bI_q1, or_true, true_or, not_true_eq_false, not_false_eq_true, nI_l, ge64, Nat.lt_irrefl, Nat.add_sub_cancel, Nat.not_lt_zero, lN_0, lN_1e4, lN_1e6, lN_1e3, lN_add, lN_mul, lN_ltI, lN_leI, lN_eqI, lN_i, lcE, lcLe, lcLt, lN_div]
    refine d199 ha' hs1.2.2.2.2.2.1 hr hs1.2.2.2.2.2.2.1 (by omega) (by omega) (by omega) (fun μ2 f2 h2 => ?_)
    have e1 : gR μ1 237 4 = some L := by rw [f1.R]; exact hn.1.2.2.1
    have e2 : gR μ1 156 8 = some L := by rw [f1.R]; exact hn.1.1.1.1.1.2.2.1
    rw [sR_same e1, sR_same e2] at f2
    have hx2 := hx.new ((f1.mono (P' := fun b k => Pch L 0 b k ∨ PC 156 b k ∨ PN 237 b k) (fun b k q => Or.inl q)).trans (f2.mono (fun b k q => Or.inr q))) (fun b k q => by unfold Pch PC PN at q; omega) h2
    try simp (disch := omega) only [hx2.all, wr_s, in_nI, clN, ti_z, ti_l, true_and, and_true, kI, zI, rI, kL, zL, rL, kR, zR, nnI, nnL, nnR, iL, iR, lI, lR, exi, exl, exv, eq_self, nI_add, nI_mul, nI_sub, nI_ltI, nI_leI, nI_eq, q0, q1, q2, q3, q4, q5, q6, q10, q100, br_Tr, br_Fa, iI_s, iI_n, bI_q0, bI_q1, or_true, true_or, not_true_eq_false, not_false_eq_true, nI_l, ge64, Nat.lt_irrefl, Nat.add_sub_cancel, Nat.not_lt_zero, lN_0, lN_1e4, lN_1e6, lN_1e3, lN_add, lN_mul, lN_ltI, lN_leI, lN_eqI, lN_i, lcE, lcLe, lcLt, lN_div]
    exact q _ (((((Out.refl 64 332 μ).F f1 (fun b k q => by unfold Pch at q; omega)).F f2 (fun b k q => by unfold PC PN at q; omega))).I (by omega) (by omega)) ⟨L, M, hx2.tr (t := 0) (by decide) (by decide)⟩
end E4
