/-! the model: hides, gain, change, undo, led -/
theorem Ag.sub {n n' : Nat} {μ μ' : ax_M} (h : Ag n μ μ') (hn : n' ≤ n) : Ag n' μ μ' := fun b hb => h b (by omega)
theorem wnt_f (st : St) (x y z : Int32) : wnt st x y z false = 1 := by unfold wnt; rw [Bool.and_false]; rfl
def aLed (st : St) (x y : Int32) : Option Nat := cond (inN x (cn st 5)) (led (ldo st) (cl x) y) none
section F9
variable {l : Launch} {G : ax_G} {μ : ax_M} {st : St} {N : Nat} {a : Ld}
theorem d233 {t m b w o : Nat} {K : Int32 → ax_M → Prop} (hc : MB μ N a) (hN : N + 18 ≤ mN μ) (ht : t < nTh a) (h1 : 1 ≤ m) (hm : m < nMo a) (hb1 : 1 ≤ b) (hb9 : b ≤ 99) (hn : nCh a < 20) (hw : w < 3) (ho : o < nOf a) (q : ∀ μ', mN μ' = mN μ + 1 → OutM μ μ' → (∀ c, c = 332 ∨ c = 333 → ∀ k, gI μ' c k = gI μ c k) → MB μ' N a → K (bI (hid a t m b o w)) μ') : ax_CI l G 233 [ax_r (some 332), ax_i (nI t), ax_i (nI m), ax_i (nI b), ax_i (nI w), ax_i (nI o)] μ K := by
  have hb := hc.bd
  have ha := hc.1.1.1
  have hcw : cw w ≤ 6 := by unfold cw; split <;> (try split) <;> omega
  refine ax_Ct.of (by decide) (Nat.le_of_ble_eq_true rfl) (sg233_0 l G _ 332 _ _ _ _ _ _ ?_)
  refine ⟨⟨by decide, by decide +kernel⟩, ax_gd.mk (by decide) (by decide +kernel) ?_⟩
  rw [show Int32.toNatClampNeg 3 = 3 from rfl]
  generalize hc0 : mN μ = c0
  have hag : Ag c0 μ (nC μ 21 3) := by rw [← hc0]; exact Ag.new μ 21 3
  have hk0 : mK (nC μ 21 3) c0 = 21 := by rw [← hc0]; exact nCk _ _ _
  have hz0 : mZ (nC μ 21 3) c0 = 3 := by rw [← hc0]; exact nCz _ _ _
  have hn0 : mN (nC μ 21 3) = c0 + 1 := by rw [← hc0]; rfl
  have hcc := hc.ag hag (by omega)
  have hout : OutM μ (nC μ 21 3) := (OutM.refl _).C (by omega)
  have hsame : ∀ c, c = 332 ∨ c = 333 → ∀ k, gI (nC μ 21 3) c k = gI μ c k := fun c h k => hag.I (by omega)
  generalize nC μ 21 3 = μ0 at hag hk0 hz0 hn0 hcc hout hsame ⊢
  refine up_to (P := fun h => ∀ μh, Fr (fun b _ => b = c0) μ0 μh → (∀ i, i < h → gI μh c0 i = nI (pcO a i t m)) → (ax_Rw l G ax_h233 (ax_E G ax_h233 (fun x μ' => ∃ v : Int32, x = some (ax_i v) ∧ K v μ')) 8 [(0, ax_r (some 332)), (1, ax_i (nI t)), (2, ax_i (nI m)), (3, ax_i (nI b)), (4, ax_i (nI w)), (5, ax_i (nI o)), (6, ax_r (some c0)), (7, ax_i (nI h))] [] (1) (0 + 3) μh)) (nHo a) (fun μh fh hr => ?_) (fun h hh ih μh fh hr => ?_) 0 (Nat.zero_le _) μ0 (Fr.refl _ _) (fun i hi => by omega)
  · have hch : MB μh N a := hcc.ag (n := c0) (fun b hb => ⟨by rw [fh.2.1], fun k => ⟨fh.I (by omega), fh.L _ _, fh.R _ _⟩⟩) (by omega)
    have hnum := num_in a o m
    refine sg233_8 l G _ 332 _ _ _ _ _ _ _ _ _ _ ?_
    try simp (disch := omega) only [hch.1.1.2.1.all, hch.1.1.2.2.1, hch.1.1.2.2.2.1.all, hch.1.1.2.2.2.all, hch.1.2, hch.2, wr_s, in_nI, clN, ti_z, ti_l, true_and, and_true, kI, zI, rI, kL, zL, rL, kR, zR, nnI, nnL, nnR, iL, iR, lI, lR, exi, exl, exv, eq_self, nI_add, nI_mul, nI_sub, nI_ltI, nI_leI, nI_eq, q0, q1, q2, q3, q4, q5, q6, q10, q100, br_Tr, br_Fa, iI_s, iI_n, bI_q0, bI_q1, or_true, true_or, not_true_eq_false, not_false_eq_true, nI_l, ge64, Nat.lt_irrefl, Nat.add_sub_cancel, Nat.not_lt_zero, lN_0, lN_1e4, lN_1e6, lN_1e3, lN_add, lN_mul, lN_ltI, lN_leI, lN_eqI, lN_i, lcE, lcLe, lcLt, lN_div, q7, q12, q20, q99, q200, q999, q1e4, if_true, if_false, Nat.le_refl]
    refine ax_gd.mk (by omega) (by omega) ?_
    refine d204 hch ho hm ?_
    refine ax_gd.mk (by omega) (by omega) ?_
    refine d56 hw ?_
    try simp (disch := omega) only [hch.1.1.2.1.all, hch.1.1.2.2.1, hch.1.1.2.2.2.1.all, hch.1.1.2.2.2.all, hch.1.2, hch.2, wr_s, in_nI, clN, ti_z, ti_l, true_and, and_true, kI, zI, rI, kL, zL, rL, kR, zR, nnI, nnL, nnR, iL, iR, lI, lR, exi, exl, exv, eq_self, nI_add, nI_mul, nI_sub, nI_ltI, nI_leI, nI_eq, q0, q1, q2, q3, q4, q5, q6, q10, q100, br_Tr, br_Fa, iI_s, iI_n, bI_q0, bI_q1, or_true, true_or, not_true_eq_false, not_false_eq_true, nI_l, ge64, Nat.lt_irrefl, Nat.add_sub_cancel, Nat.not_lt_zero, lN_0, lN_1e4, lN_1e6, lN_1e3, lN_add, lN_mul, lN_ltI, lN_leI, lN_eqI, lN_i, lcE, lcLe, lcLt, lN_div, q7, q12, q20, q99, q200, q999, q1e4, if_true, if_false, Nat.le_refl]
    refine ax_gd.mk (by omega) (by omega) ?_
    refine d214 (b := b) hch ht h1 hm hcw (by omega) hn (fun _ => rfl) (fun μ1 f1 hc1 => ?_)
    have hb1' := hc1.bd
    have ht1 : t < nTh (adc a t m (cw w) b) := ht
    have hm1 : m < nMo (adc a t m (cw w) b) := hm
    have hnum1 := num_in (adc a t m (cw w) b) o m
    try simp (disch := omega) only [hc1.1.1.2.1.all, hc1.1.1.2.2.1, hc1.1.1.2.2.2.1.all, hc1.1.1.2.2.2.all, hc1.1.2, hc1.2, wr_s, in_nI, clN, ti_z, ti_l, true_and, and_true, kI, zI, rI, kL, zL, rL, kR, zR, nnI, nnL, nnR, iL, iR, lI, lR, exi, exl, exv, eq_self, nI_add, nI_mul, nI_sub, nI_ltI, nI_leI, nI_eq, q0, q1, q2, q3, q4, q5, q6, q10, q100, br_Tr, br_Fa, iI_s, iI_n, bI_q0, bI_q1, or_true, true_or, not_true_eq_false, not_false_eq_true, nI_l, ge64, Nat.lt_irrefl, Nat.add_sub_cancel, Nat.not_lt_zero, lN_0, lN_1e4, lN_1e6, lN_1e3, lN_add, lN_mul, lN_ltI, lN_leI, lN_eqI, lN_i, lcE, lcLe, lcLt, lN_div, q7, q12, q20, q99, q200, q999, q1e4, if_true, if_false, Nat.le_refl]
    refine ax_gd.mk (by omega) (by omega) ?_
    refine d204 hc1 (a := adc a t m (cw w) b) ho hm1 ?_
    try simp (disch := omega) only [wr_s, in_nI, clN, ti_z, ti_l, true_and, and_true, kI, zI, rI, kL, zL, rL, kR, zR, nnI, nnL, nnR, iL, iR, lI, lR, exi, exl, exv, eq_self, nI_add, nI_mul, nI_sub, nI_ltI, nI_leI, nI_eq, q0, q1, q2, q3, q4, q5, q6, q10, q100, br_Tr, br_Fa, iI_s, iI_n, bI_q0, bI_q1, or_true, true_or, not_true_eq_false, not_false_eq_true, nI_l, ge64, Nat.lt_irrefl, Nat.add_sub_cancel, Nat.not_lt_zero, lN_0, lN_1e4, lN_1e6, lN_1e3, lN_add, lN_mul, lN_ltI, lN_leI, lN_eqI, lN_i, lcE, lcLe, lcLt, lN_div, q7, q12, q20, q99, q200, q999, q1e4, if_true, if_false, Nat.le_refl]
    have hk1 : mK μ1 c0 = 21 := by rw [f1.K, fh.K]; exact hk0
    have hz1 : mZ μ1 c0 = 3 := by rw [f1.Z, fh.Z]; exact hz0
    have hi1 : ∀ i, i < nHo a → gI μ1 c0 i = nI (pcO a i t m) := fun i hi => by rw [f1.I (by unfold PCm; omega)]; exact hr i hi
    have fin : ∀ v : Bool, v = (allN (fun h => decide (pcO a h t m ≤ pcO (adc a t m (cw w) b) h t m)) (nHo a) && decide (num (adc a t m (cw w) b) o m ≤ num a o m)) → (ax_Rw l G ax_h233 (ax_E G ax_h233 (fun x μ' => ∃ v : Int32, x = some (ax_i v) ∧ K v μ')) 82 [(0, ax_r (some 332)), (1, ax_i (nI t)), (2, ax_i (nI m)), (6, ax_r (some c0)), (8, ax_i (bI v)), (9, ax_i (nI (nHo a)))] [] (1) (0 + 3) μ1) := by
      intro v hv
      have hv : v = hid a t m b o w := hv
      have e5 : nHo (adc a t m (cw w) b) = nHo a := rfl
      refine sg233_82 l G _ 332 _ _ _ _ _ _ _ _ ?_
      try simp (disch := omega) only [hc1.1.1.2.1.all, hc1.1.1.2.2.1, hc1.1.1.2.2.2.1.all, hc1.1.1.2.2.2.all, hc1.1.2, hc1.2, e5, wr_s, in_nI, clN, ti_z, ti_l, true_and, and_true, kI, zI, rI, kL, zL, rL, kR, zR, nnI, nnL, nnR, iL, iR, lI, lR, exi, exl, exv, eq_self, nI_add, nI_mul, nI_sub, nI_ltI, nI_leI, nI_eq, q0, q1, q2, q3, q4, q5, q6, q10, q100, br_Tr, br_Fa, iI_s, iI_n, bI_q0, bI_q1, or_true, true_or, not_true_eq_false, not_false_eq_true, nI_l, ge64, Nat.lt_irrefl, Nat.add_sub_cancel, Nat.not_lt_zero, lN_0, lN_1e4, lN_1e6, lN_1e3, lN_add, lN_mul, lN_ltI, lN_leI, lN_eqI, lN_i, lcE, lcLe, lcLt, lN_div, q7, q12, q20, q99, q200, q999, q1e4, if_true, if_false, Nat.le_refl]
      refine ax_gd.mk (by omega) (by omega) ?_
      have hrb := hch.1.1.2.2.2.bk f1
      have hw1 : MW (sI μ1 N 3 (nI (nCh a))) N a := ⟨ha, hc1.1.1.2.1.fr ((Fr.refl (fun _ _ => True) μ1).put trivial), hc1.1.1.2.2.1, hrb⟩
      refine d216 hc1.1.1.2.1 hc1.1.1.2.2.2.1 hc1.1.1.2.2.1 (c := nCh a) (hc1.1.1.2.2.2.2.1 3 (by omega)) hw1 (fun μ2 f2 hc2 => ?_)
      refine ax_gd.mk (by omega) (by omega) ?_
      have f12 : Fr (PCm N (nCh a)) μh μ2 := (f1.put (Or.inr (Or.inr ⟨rfl, rfl⟩))).trans (f2.mono (fun b k q => Or.inl q))
      rw [hv]
      refine ⟨by cases hid a t m b o w; exact Or.inl rfl; exact Or.inr rfl, q μ2 ?_ ((hout.F fh (fun b k q => by omega)).F f12 (fun b k q => by unfold PCm at q; omega)) (fun c hc k => ?_) hc2⟩
      · have e1 := f12.1
        have e2 := fh.1
        unfold mN at *
        omega
      · rw [f12.I (by unfold PCm; omega), fh.I (by omega)]; exact hsame c hc k
    have loop : ∀ h, h ≤ nHo a → ∀ v : Bool, v = (allN (fun h => decide (pcO a h t m ≤ pcO (adc a t m (cw w) b) h t m)) h && decide (num (adc a t m (cw w) b) o m ≤ num a o m)) → (ax_Rw l G ax_h233 (ax_E G ax_h233 (fun x μ' => ∃ v : Int32, x = some (ax_i v) ∧ K v μ')) 82 [(0, ax_r (some 332)), (1, ax_i (nI t)), (2, ax_i (nI m)), (6, ax_r (some c0)), (8, ax_i (bI v)), (9, ax_i (nI h))] [] (1) (0 + 3) μ1) := by
      refine up_to (nHo a) fin (fun h hh ih v hv => ?_)
      have hp0 : pcO a h t m ≤ 99 := by
        unfold pcO; split
        · exact (buy_in ha hh (show tG a t < 4 by have := ha.tg ht; omega) m).2.1
        · omega
      have hp1 : pcO (adc a t m (cw w) b) h t m ≤ 99 := by
        have ha1 := hc1.1.1.1
        unfold pcO; split
        · exact (buy_in ha1 (show h < nHo (adc a t m (cw w) b) from hh) (show tG (adc a t m (cw w) b) t < 4 by have := ha1.tg ht1; omega) m).2.1
        · omega
      unfold allN at ih
      have e5 : nHo (adc a t m (cw w) b) = nHo a := rfl
      refine sg233_82 l G _ 332 _ _ _ _ _ _ _ _ ?_
      try simp (disch := omega) only [hc1.1.1.2.1.all, hc1.1.1.2.2.1, hc1.1.1.2.2.2.1.all, hc1.1.1.2.2.2.all, hc1.1.2, hc1.2, e5, hh, wr_s, in_nI, clN, ti_z, ti_l, true_and, and_true, kI, zI, rI, kL, zL, rL, kR, zR, nnI, nnL, nnR, iL, iR, lI, lR, exi, exl, exv, eq_self, nI_add, nI_mul, nI_sub, nI_ltI, nI_leI, nI_eq, q0, q1, q2, q3, q4, q5, q6, q10, q100, br_Tr, br_Fa, iI_s, iI_n, bI_q0, bI_q1, or_true, true_or, not_true_eq_false, not_false_eq_true, nI_l, ge64, Nat.lt_irrefl, Nat.add_sub_cancel, Nat.not_lt_zero, lN_0, lN_1e4, lN_1e6, lN_1e3, lN_add, lN_mul, lN_ltI, lN_leI, lN_eqI, lN_i, lcE, lcLe, lcLt, lN_div, q7, q12, q20, q99, q200, q999, q1e4, if_true, if_false, Nat.le_refl]
      refine ax_brc (fun hf => ?_) (fun hf => ?_)
      · refine ih false ?_
        rw [hf] at hv
        cases ha2 : allN (fun h => decide (pcO a h t m ≤ pcO (adc a t m (cw w) b) h t m)) h
        · simp
        · rw [ha2, Bool.true_and] at hv
          rw [← hv, Bool.and_false]
      · have hv1 : v = true := by simpa using hf
        rw [hv1] at hv
        refine ax_gd.mk (by omega) (by omega) ?_
        refine d117 hc1 (a := adc a t m (cw w) b) hh ht1 hm1 ?_
        try simp (disch := omega) only [hk1, hz1, hi1, wr_s, in_nI, clN, ti_z, ti_l, true_and, and_true, kI, zI, rI, kL, zL, rL, kR, zR, nnI, nnL, nnR, iL, iR, lI, lR, exi, exl, exv, eq_self, nI_add, nI_mul, nI_sub, nI_ltI, nI_leI, nI_eq, q0, q1, q2, q3, q4, q5, q6, q10, q100, br_Tr, br_Fa, iI_s, iI_n, bI_q0, bI_q1, or_true, true_or, not_true_eq_false, not_false_eq_true, nI_l, ge64, Nat.lt_irrefl, Nat.add_sub_cancel, Nat.not_lt_zero, lN_0, lN_1e4, lN_1e6, lN_1e3, lN_add, lN_mul, lN_ltI, lN_leI, lN_eqI, lN_i, lcE, lcLe, lcLt, lN_div, q7, q12, q20, q99, q200, q999, q1e4, if_true, if_false, Nat.le_refl]
        have hv := hv.symm
        rw [Bool.and_eq_true] at hv
        refine ax_brc (fun h3 => ?_) (fun h3 => ?_)
        · exact ih false (by simp; omega)
        · exact ih true (by rw [hv.1, hv.2]; simp; omega)
    refine ax_brc (fun h3 => ?_) (fun h3 => ?_)
    · exact loop 0 (Nat.zero_le _) true (by unfold allN; simp [h3])
    · exact loop 0 (Nat.zero_le _) false (by unfold allN; simp; omega)
  · have hch : MB μh N a := hcc.ag (n := c0) (fun b hb => ⟨by rw [fh.2.1], fun k => ⟨fh.I (by omega), fh.L _ _, fh.R _ _⟩⟩) (by omega)
    have hkh : mK μh c0 = 21 := by rw [fh.K]; exact hk0
    have hzh : mZ μh c0 = 3 := by rw [fh.Z]; exact hz0
    refine sg233_8 l G _ 332 _ _ _ _ _ _ _ _ _ _ ?_
    try simp (disch := omega) only [hch.1.1.2.1.all, hch.1.1.2.2.1, hch.1.1.2.2.2.1.all, hch.1.1.2.2.2.all, hch.1.2, hch.2, hh, wr_s, in_nI, clN, ti_z, ti_l, true_and, and_true, kI, zI, rI, kL, zL, rL, kR, zR, nnI, nnL, nnR, iL, iR, lI, lR, exi, exl, exv, eq_self, nI_add, nI_mul, nI_sub, nI_ltI, nI_leI, nI_eq, q0, q1, q2, q3, q4, q5, q6, q10, q100, br_Tr, br_Fa, iI_s, iI_n, bI_q0, bI_q1, or_true, true_or, not_true_eq_false, not_false_eq_true, nI_l, ge64, Nat.lt_irrefl, Nat.add_sub_cancel, Nat.not_lt_zero, lN_0, lN_1e4, lN_1e6, lN_1e3, lN_add, lN_mul, lN_ltI, lN_leI, lN_eqI, lN_i, lcE, lcLe, lcLt, lN_div, q7, q12, q20, q99, q200, q999, q1e4, if_true, if_false, Nat.le_refl]
    refine ax_gd.mk (by omega) (by omega) ?_
    refine d117 hch hh ht hm ?_
    try simp (disch := omega) only [hkh, hzh, wr_s, in_nI, clN, ti_z, ti_l, true_and, and_true, kI, zI, rI, kL, zL, rL, kR, zR, nnI, nnL, nnR, iL, iR, lI, lR, exi, exl, exv, eq_self, nI_add, nI_mul, nI_sub, nI_ltI, nI_leI, nI_eq, q0, q1, q2, q3, q4, q5, q6, q10, q100, br_Tr, br_Fa, iI_s, iI_n, bI_q0, bI_q1, or_true, true_or, not_true_eq_false, not_false_eq_true, nI_l, ge64, Nat.lt_irrefl, Nat.add_sub_cancel, Nat.not_lt_zero, lN_0, lN_1e4, lN_1e6, lN_1e3, lN_add, lN_mul, lN_ltI, lN_leI, lN_eqI, lN_i, lcE, lcLe, lcLt, lN_div, q7, q12, q20, q99, q200, q999, q1e4, if_true, if_false, Nat.le_refl]
    refine ih _ (fh.put rfl) (lt_s (fun i hi => ?_) ?_)
    · try simp (disch := omega) only [wr_s, in_nI, clN, ti_z, ti_l, true_and, and_true, kI, zI, rI, kL, zL, rL, kR, zR, nnI, nnL, nnR, iL, iR, lI, lR, exi, exl, exv, eq_self, nI_add, nI_mul, nI_sub, nI_ltI, nI_leI, nI_eq, q0, q1, q2, q3, q4, q5, q6, q10, q100, br_Tr, br_Fa, iI_s, iI_n, bI_q0, bI_q1, or_true, true_or, not_true_eq_false, not_false_eq_true, nI_l, ge64, Nat.lt_irrefl, Nat.add_sub_cancel, Nat.not_lt_zero, lN_0, lN_1e4, lN_1e6, lN_1e3, lN_add, lN_mul, lN_ltI, lN_leI, lN_eqI, lN_i, lcE, lcLe, lcLt, lN_div, q7, q12, q20, q99, q200, q999, q1e4, if_true, if_false, Nat.le_refl]
      exact hr i hi
    · try simp (disch := omega) only [wr_s, in_nI, clN, ti_z, ti_l, true_and, and_true, kI, zI, rI, kL, zL, rL, kR, zR, nnI, nnL, nnR, iL, iR, lI, lR, exi, exl, exv, eq_self, nI_add, nI_mul, nI_sub, nI_ltI, nI_leI, nI_eq, q0, q1, q2, q3, q4, q5, q6, q10, q100, br_Tr, br_Fa, iI_s, iI_n, bI_q0, bI_q1, or_true, true_or, not_true_eq_false, not_false_eq_true, nI_l, ge64, Nat.lt_irrefl, Nat.add_sub_cancel, Nat.not_lt_zero, lN_0, lN_1e4, lN_1e6, lN_1e3, lN_add, lN_mul, lN_ltI, lN_leI, lN_eqI, lN_i, lcE, lcLe, lcLt, lN_div, q7, q12, q20, q99, q200, q999, q1e4, if_true, if_false, Nat.le_refl]
theorem m239 {x y z w : Int32} {K : Int32 → ax_M → Prop} (hx : Mx μ st) (q : ∀ μ', OutM μ μ' → Mx μ' (aGain st x y z w).2 → K (aGain st x y z w).1 μ') : ax_CI l G 239 [ax_r (some 332), ax_i x, ax_i y, ax_i z, ax_i w] μ K := by
  have hb := hx.bd
  unfold aGain at q
  refine ax_Ct.of (by decide) (Nat.le_of_ble_eq_true rfl) (sg239_0 l G _ 332 _ _ _ _ _ ?_)
  try simp (disch := omega) only [hx.1.all, wr_s, in_nI, clN, ti_z, ti_l, true_and, and_true, kI, zI, rI, kL, zL, rL, kR, zR, nnI, nnL, nnR, iL, iR, lI, lR, exi, exl, exv, eq_self, nI_add, nI_mul, nI_sub, nI_ltI, nI_leI, nI_eq, q0, q1, q2, q3, q4, q5, q6, q10, q100, br_Tr, br_Fa, iI_s, iI_n, bI_q0, bI_q1, or_true, true_or, not_true_eq_false, not_false_eq_true, nI_l, ge64, Nat.lt_irrefl, Nat.add_sub_cancel, Nat.not_lt_zero, lN_0, lN_1e4, lN_1e6, lN_1e3, lN_add, lN_mul, lN_ltI, lN_leI, lN_eqI, lN_i, lcE, lcLe, lcLt, lN_div, q7, q12, q20, q99, q200, q999, q1e4, if_true, if_false, Nat.le_refl]
  refine d57 (n := 2) (by omega) ?_
  try simp (disch := omega) only [hx.1.all, wr_s, in_nI, clN, ti_z, ti_l, true_and, and_true, kI, zI, rI, kL, zL, rL, kR, zR, nnI, nnL, nnR, iL, iR, lI, lR, exi, exl, exv, eq_self, nI_add, nI_mul, nI_sub, nI_ltI, nI_leI, nI_eq, q0, q1, q2, q3, q4, q5, q6, q10, q100, br_Tr, br_Fa, iI_s, iI_n, bI_q0, bI_q1, or_true, true_or, not_true_eq_false, not_false_eq_true, nI_l, ge64, Nat.lt_irrefl, Nat.add_sub_cancel, Nat.not_lt_zero, lN_0, lN_1e4, lN_1e6, lN_1e3, lN_add, lN_mul, lN_ltI, lN_leI, lN_eqI, lN_i, lcE, lcLe, lcLt, lN_div, q7, q12, q20, q99, q200, q999, q1e4, if_true, if_false, Nat.le_refl]
  cases hw : inN w 3
  · rw [hw, wnt_f, if_neg (by decide)] at q
    exact ax_brt rfl (d68 hx (by decide) q)
  rw [hw] at q
  have hwi := wnt_in (st := st) x y z true
  refine ax_brf (by decide) ?_
  refine d118 hx.s0 ?_
  try simp (disch := omega) only [hx.1.all, wr_s, in_nI, clN, ti_z, ti_l, true_and, and_true, kI, zI, rI, kL, zL, rL, kR, zR, nnI, nnL, nnR, iL, iR, lI, lR, exi, exl, exv, eq_self, nI_add, nI_mul, nI_sub, nI_ltI, nI_leI, nI_eq, q0, q1, q2, q3, q4, q5, q6, q10, q100, br_Tr, br_Fa, iI_s, iI_n, bI_q0, bI_q1, or_true, true_or, not_true_eq_false, not_false_eq_true, nI_l, ge64, Nat.lt_irrefl, Nat.add_sub_cancel, Nat.not_lt_zero, lN_0, lN_1e4, lN_1e6, lN_1e3, lN_add, lN_mul, lN_ltI, lN_leI, lN_eqI, lN_i, lcE, lcLe, lcLt, lN_div, q7, q12, q20, q99, q200, q999, q1e4, if_true, if_false, Nat.le_refl]
  refine ax_brc (fun h0 => ?_) (fun h0 => ?_)
  · have h0 : wnt st x y z true = 0 := by omega
    rw [if_pos h0] at q
    obtain ⟨g1, g2, g3, g4, g5, g6⟩ := wnt_0 h0
    obtain ⟨t, ht, rfl⟩ := inN_t (by omega) g1
    obtain ⟨m, hm1, hm2, rfl⟩ := inL_t (by omega) g2
    rw [inK_L (by omega)] at g5
    obtain ⟨b, hb1, hb2, rfl⟩ := inL_t (by omega) g5
    obtain ⟨w, hw3, rfl⟩ := inN_t (by omega) hw
    rw [cl_nI (by omega), cl_nI (by omega), cl_nI (by omega), cl_nI (by omega)] at q
    obtain ⟨N, hM0, hN, hl, he⟩ := hx.mb ht
    have hM := hM0.s0 (v := nI 0)
    refine d231 hM (by omega) hm1 (by omega) hb1 (by omega) (by omega) hw3 (fun μ1 f1 hc1 => ?_)
    have hx1 : Mx μ1 st := by
      have h := hx.s0 (v := nI 0) |>.mk2 (μ1 := μ1) (N := N) (a := ldo st) (Nat.le_of_eq f1.1.symm) (fun c hc k => f1.I (by have := hM0.bd; unfold PCm; omega)) (by have e := f1.1; unfold mN at *; have e2 : (sI μ 332 0 (nI 0)).1 = μ.1 := rfl; omega) hc1
      rw [sLd_same hl] at h
      exact h
    try simp (disch := omega) only [hx1.1.all, wr_s, in_nI, clN, ti_z, ti_l, true_and, and_true, kI, zI, rI, kL, zL, rL, kR, zR, nnI, nnL, nnR, iL, iR, lI, lR, exi, exl, exv, eq_self, nI_add, nI_mul, nI_sub, nI_ltI, nI_leI, nI_eq, q0, q1, q2, q3, q4, q5, q6, q10, q100, br_Tr, br_Fa, iI_s, iI_n, bI_q0, bI_q1, or_true, true_or, not_true_eq_false, not_false_eq_true, nI_l, ge64, Nat.lt_irrefl, Nat.add_sub_cancel, Nat.not_lt_zero, lN_0, lN_1e4, lN_1e6, lN_1e3, lN_add, lN_mul, lN_ltI, lN_leI, lN_eqI, lN_i, lcE, lcLe, lcLt, lN_div, q7, q12, q20, q99, q200, q999, q1e4, if_true, if_false, Nat.le_refl]
    refine d51' hx1 (fun μ2 o2 hx2 => ?_)
    exact q μ2 ((OutM.s0.F f1 (fun b k q => by have := hM0.bd; unfold PCm at q; omega)).trans o2) hx2
  · rw [if_neg (by omega)] at q
    exact d68 hx (by omega) q
theorem m240 {x y z w : Int32} {K : Int32 → ax_M → Prop} (hx : Mx μ st) (q : ∀ μ', OutM μ μ' → Mx μ' (aHides st x y z w).2 → K (aHides st x y z w).1 μ') : ax_CI l G 240 [ax_r (some 332), ax_i x, ax_i y, ax_i z, ax_i w] μ K := by
  have hb := hx.bd
  unfold aHides at q
  refine ax_Ct.of (by decide) (Nat.le_of_ble_eq_true rfl) (sg240_0 l G _ 332 _ _ _ _ _ ?_)
  try simp (disch := omega) only [hx.1.all, wr_s, in_nI, clN, ti_z, ti_l, true_and, and_true, kI, zI, rI, kL, zL, rL, kR, zR, nnI, nnL, nnR, iL, iR, lI, lR, exi, exl, exv, eq_self, nI_add, nI_mul, nI_sub, nI_ltI, nI_leI, nI_eq, q0, q1, q2, q3, q4, q5, q6, q10, q100, br_Tr, br_Fa, iI_s, iI_n, bI_q0, bI_q1, or_true, true_or, not_true_eq_false, not_false_eq_true, nI_l, ge64, Nat.lt_irrefl, Nat.add_sub_cancel, Nat.not_lt_zero, lN_0, lN_1e4, lN_1e6, lN_1e3, lN_add, lN_mul, lN_ltI, lN_leI, lN_eqI, lN_i, lcE, lcLe, lcLt, lN_div, q7, q12, q20, q99, q200, q999, q1e4, if_true, if_false, Nat.le_refl]
  refine d63 hx.s0 ?_
  try simp (disch := omega) only [hx.1.all, wr_s, in_nI, clN, ti_z, ti_l, true_and, and_true, kI, zI, rI, kL, zL, rL, kR, zR, nnI, nnL, nnR, iL, iR, lI, lR, exi, exl, exv, eq_self, nI_add, nI_mul, nI_sub, nI_ltI, nI_leI, nI_eq, q0, q1, q2, q3, q4, q5, q6, q10, q100, br_Tr, br_Fa, iI_s, iI_n, bI_q0, bI_q1, or_true, true_or, not_true_eq_false, not_false_eq_true, nI_l, ge64, Nat.lt_irrefl, Nat.add_sub_cancel, Nat.not_lt_zero, lN_0, lN_1e4, lN_1e6, lN_1e3, lN_add, lN_mul, lN_ltI, lN_leI, lN_eqI, lN_i, lcE, lcLe, lcLt, lN_div, q7, q12, q20, q99, q200, q999, q1e4, if_true, if_false, Nat.le_refl]
  cases hw : inN w (cn st 6)
  · rw [hw, wnt_f, if_neg (by decide)] at q
    exact ax_brt rfl (d68 hx (by decide) q)
  rw [hw] at q
  have hwi := wnt_in (st := st) x y z true
  refine ax_brf (by decide) ?_
  refine d118 hx.s0 ?_
  try simp (disch := omega) only [hx.1.all, wr_s, in_nI, clN, ti_z, ti_l, true_and, and_true, kI, zI, rI, kL, zL, rL, kR, zR, nnI, nnL, nnR, iL, iR, lI, lR, exi, exl, exv, eq_self, nI_add, nI_mul, nI_sub, nI_ltI, nI_leI, nI_eq, q0, q1, q2, q3, q4, q5, q6, q10, q100, br_Tr, br_Fa, iI_s, iI_n, bI_q0, bI_q1, or_true, true_or, not_true_eq_false, not_false_eq_true, nI_l, ge64, Nat.lt_irrefl, Nat.add_sub_cancel, Nat.not_lt_zero, lN_0, lN_1e4, lN_1e6, lN_1e3, lN_add, lN_mul, lN_ltI, lN_leI, lN_eqI, lN_i, lcE, lcLe, lcLt, lN_div, q7, q12, q20, q99, q200, q999, q1e4, if_true, if_false, Nat.le_refl]
  refine ax_brc (fun h0 => ?_) (fun h0 => ?_)
  · have h0 : wnt st x y z true = 0 := by omega
    rw [if_pos h0] at q
    obtain ⟨g1, g2, g3, g4, g5, g6⟩ := wnt_0 h0
    obtain ⟨t, ht, rfl⟩ := inN_t (by omega) g1
    obtain ⟨m, hm1, hm2, rfl⟩ := inL_t (by omega) g2
    rw [inK_L (by omega)] at g5
    obtain ⟨b, hb1, hb2, rfl⟩ := inL_t (by omega) g5
    obtain ⟨o, ho, rfl⟩ := inN_t (by omega) hw
    rw [cl_nI (by omega), cl_nI (by omega), cl_nI (by omega), cl_nI (by omega)] at q
    refine up_to (P := fun w => ∀ μw, OutM μ μw → Mx μw st → (ax_Rw l G ax_h240 (ax_E G ax_h240 (fun x μ' => ∃ v : Int32, x = some (ax_i v) ∧ K v μ')) 51 [(0, ax_r (some 332)), (1, ax_i (nI t)), (2, ax_i (nI m)), (3, ax_i (nI b)), (4, ax_i (nI o)), (6, ax_i (e4 (hdK (ldo st) t m b o w))), (7, ax_i (e5 (hdK (ldo st) t m b o w))), (8, ax_i (nI w))] [] (w) (3 * w) μw)) 3 (fun μw ow hxw => ?_) (fun w hw3 ih μw ow hxw => ?_) 0 (Nat.zero_le _) _ OutM.s0 hx.s0
    · refine sg240_51 l G _ 332 _ _ _ _ _ _ _ _ _ _ ?_
      try simp (disch := omega) only [hxw.1.all, wr_s, in_nI, clN, ti_z, ti_l, true_and, and_true, kI, zI, rI, kL, zL, rL, kR, zR, nnI, nnL, nnR, iL, iR, lI, lR, exi, exl, exv, eq_self, nI_add, nI_mul, nI_sub, nI_ltI, nI_leI, nI_eq, q0, q1, q2, q3, q4, q5, q6, q10, q100, br_Tr, br_Fa, iI_s, iI_n, bI_q0, bI_q1, or_true, true_or, not_true_eq_false, not_false_eq_true, nI_l, ge64, Nat.lt_irrefl, Nat.add_sub_cancel, Nat.not_lt_zero, lN_0, lN_1e4, lN_1e6, lN_1e3, lN_add, lN_mul, lN_ltI, lN_leI, lN_eqI, lN_i, lcE, lcLe, lcLt, lN_div, q7, q12, q20, q99, q200, q999, q1e4, if_true, if_false, Nat.le_refl]
      refine ax_gd.mk (by omega) (by omega) ?_
      refine d51' hxw (fun μ2 o2 hx2 => ?_)
      exact ax_gd.mk (by omega) (by omega) (q μ2 (ow.trans o2) hx2)
    · obtain ⟨N, hM, hN, hl, he⟩ := hxw.mb ht
      have ha := hM.1.1.1
      have hgi := (gn_in (w := w) ha (t := t) (by omega) hm1 (by omega) hb1 (by omega) (by omega)).2.2
      rw [show hdK (ldo st) t m b o (w + 1) = (if (hid (ldo st) t m b o w && hdB (hdK (ldo st) t m b o w) (gn (ldo st) t m b w)) = true then some (w, gn (ldo st) t m b w) else hdK (ldo st) t m b o w) from rfl, show 3 * (w + 1) = 3 * w + 3 by omega] at ih
      refine sg240_51 l G _ 332 _ _ _ _ _ _ _ _ _ _ ?_
      try simp (disch := omega) only [hxw.1.all, hw3, wr_s, in_nI, clN, ti_z, ti_l, true_and, and_true, kI, zI, rI, kL, zL, rL, kR, zR, nnI, nnL, nnR, iL, iR, lI, lR, exi, exl, exv, eq_self, nI_add, nI_mul, nI_sub, nI_ltI, nI_leI, nI_eq, q0, q1, q2, q3, q4, q5, q6, q10, q100, br_Tr, br_Fa, iI_s, iI_n, bI_q0, bI_q1, or_true, true_or, not_true_eq_false, not_false_eq_true, nI_l, ge64, Nat.lt_irrefl, Nat.add_sub_cancel, Nat.not_lt_zero, lN_0, lN_1e4, lN_1e6, lN_1e3, lN_add, lN_mul, lN_ltI, lN_leI, lN_eqI, lN_i, lcE, lcLe, lcLt, lN_div, q7, q12, q20, q99, q200, q999, q1e4, if_true, if_false, Nat.le_refl]
      refine ax_gd.mk (by omega) (by omega) ?_
      refine d233 hM hN (by omega) hm1 (by omega) hb1 (by omega) (by omega) hw3 (by omega) (fun μ1 e1 o1 s1 hc1 => ?_)
      have hx1 : Mx μ1 st := by
        have h := hxw.mk2 (μ1 := μ1) (N := N) (a := ldo st) (by omega) s1 (by omega) hc1
        rw [sLd_same hl] at h
        exact h
      try simp (disch := omega) only [hx1.1.all, wr_s, in_nI, clN, ti_z, ti_l, true_and, and_true, kI, zI, rI, kL, zL, rL, kR, zR, nnI, nnL, nnR, iL, iR, lI, lR, exi, exl, exv, eq_self, nI_add, nI_mul, nI_sub, nI_ltI, nI_leI, nI_eq, q0, q1, q2, q3, q4, q5, q6, q10, q100, br_Tr, br_Fa, iI_s, iI_n, bI_q0, bI_q1, or_true, true_or, not_true_eq_false, not_false_eq_true, nI_l, ge64, Nat.lt_irrefl, Nat.add_sub_cancel, Nat.not_lt_zero, lN_0, lN_1e4, lN_1e6, lN_1e3, lN_add, lN_mul, lN_ltI, lN_leI, lN_eqI, lN_i, lcE, lcLe, lcLt, lN_div, q7, q12, q20, q99, q200, q999, q1e4, if_true, if_false, Nat.le_refl]
      refine ax_brc (fun hh => ?_) (fun hh => ?_)
      · rw [hh, Bool.false_and, if_neg Bool.false_ne_true] at ih
        exact ih _ (ow.trans o1) hx1
      · rw [show hid (ldo st) t m b o w = true by simpa using hh, Bool.true_and] at ih
        refine ax_gd.mk (by omega) (by omega) ?_
        refine d231 hc1 (by omega) hm1 (by omega) hb1 (by omega) (by omega) hw3 (fun μ2 f2 hc2 => ?_)
        have hx2 : Mx μ2 st := by
          have h := hx1.mk2 (μ1 := μ2) (N := N) (a := ldo st) (Nat.le_of_eq f2.1.symm) (fun c hc k => f2.I (by have := hM.bd; unfold PCm; omega)) (by have e := f2.1; unfold mN at *; omega) hc2
          rw [sLd_same hl] at h
          exact h
        have o2 : OutM μ μ2 := (ow.trans o1).F f2 (fun b k q => by have := hM.bd; unfold PCm at q; omega)
        try simp (disch := omega) only [wr_s, in_nI, clN, ti_z, ti_l, true_and, and_true, kI, zI, rI, kL, zL, rL, kR, zR, nnI, nnL, nnR, iL, iR, lI, lR, exi, exl, exv, eq_self, nI_add, nI_mul, nI_sub, nI_ltI, nI_leI, nI_eq, q0, q1, q2, q3, q4, q5, q6, q10, q100, br_Tr, br_Fa, iI_s, iI_n, bI_q0, bI_q1, or_true, true_or, not_true_eq_false, not_false_eq_true, nI_l, ge64, Nat.lt_irrefl, Nat.add_sub_cancel, Nat.not_lt_zero, lN_0, lN_1e4, lN_1e6, lN_1e3, lN_add, lN_mul, lN_ltI, lN_leI, lN_eqI, lN_i, lcE, lcLe, lcLt, lN_div, q7, q12, q20, q99, q200, q999, q1e4, if_true, if_false, Nat.le_refl]
        cases hk : hdK (ldo st) t m b o w with
        | none =>
          rw [hk] at ih
          exact ax_brt (by decide +kernel) (ih μ2 o2 hx2)
        | some p =>
          rw [hk] at ih
          have hi := hdK_in ha (t := t) (o := o) (by omega) hm1 (by omega) hb1 (by omega) (by omega) w p hk
          refine ax_brf (fun e => neg2_ne (show p.1 < 2 ^ 31 by omega) e.symm) ?_
          refine br_le (gn (ldo st) t m b w) p.2 rfl rfl (by omega) (by omega) (fun h => ?_) (fun h => ?_)
          · rw [show hdB (some p) (gn (ldo st) t m b w) = false by unfold hdB; simp; omega, if_neg Bool.false_ne_true] at ih
            exact ih μ2 o2 hx2
          · rw [show hdB (some p) (gn (ldo st) t m b w) = true by unfold hdB; simp; omega, if_pos rfl] at ih
            exact ih μ2 o2 hx2
  · rw [if_neg (by omega)] at q
    exact d68 hx (by omega) q
theorem m230 {x y z w : Int32} {K : Int32 → ax_M → Prop} (hx : Mx μ st) (q : ∀ μ', OutM μ μ' → Mx μ' (aChange st x y z w).2 → K (aChange st x y z w).1 μ') : ax_CI l G 230 [ax_r (some 332), ax_i x, ax_i y, ax_i z, ax_i w] μ K := by
  have hb := hx.bd
  unfold aChange at q
  rw [inL_N] at q
  refine ax_Ct.of (by decide) (Nat.le_of_ble_eq_true rfl) (sg230_0 l G _ 332 _ _ _ _ _ ?_)
  try simp (disch := omega) only [hx.1.all, wr_s, in_nI, clN, ti_z, ti_l, true_and, and_true, kI, zI, rI, kL, zL, rL, kR, zR, nnI, nnL, nnR, iL, iR, lI, lR, exi, exl, exv, eq_self, nI_add, nI_mul, nI_sub, nI_ltI, nI_leI, nI_eq, q0, q1, q2, q3, q4, q5, q6, q10, q100, br_Tr, br_Fa, iI_s, iI_n, bI_q0, bI_q1, or_true, true_or, not_true_eq_false, not_false_eq_true, nI_l, ge64, Nat.lt_irrefl, Nat.add_sub_cancel, Nat.not_lt_zero, lN_0, lN_1e4, lN_1e6, lN_1e3, lN_add, lN_mul, lN_ltI, lN_leI, lN_eqI, lN_i, lcE, lcLe, lcLt, lN_div, q7, q12, q20, q99, q200, q999, q1e4, if_true, if_false, Nat.le_refl]
  refine d64 hx.s0 ?_
  try simp (disch := omega) only [hx.1.all, wr_s, in_nI, clN, ti_z, ti_l, true_and, and_true, kI, zI, rI, kL, zL, rL, kR, zR, nnI, nnL, nnR, iL, iR, lI, lR, exi, exl, exv, eq_self, nI_add, nI_mul, nI_sub, nI_ltI, nI_leI, nI_eq, q0, q1, q2, q3, q4, q5, q6, q10, q100, br_Tr, br_Fa, iI_s, iI_n, bI_q0, bI_q1, or_true, true_or, not_true_eq_false, not_false_eq_true, nI_l, ge64, Nat.lt_irrefl, Nat.add_sub_cancel, Nat.not_lt_zero, lN_0, lN_1e4, lN_1e6, lN_1e3, lN_add, lN_mul, lN_ltI, lN_leI, lN_eqI, lN_i, lcE, lcLe, lcLt, lN_div, q7, q12, q20, q99, q200, q999, q1e4, if_true, if_false, Nat.le_refl]
  cases h1 : inN x (cn st 2)
  · simp only [h1, Bool.and_false, Bool.false_and, Bool.and_true, Bool.true_and, cond_false, cond_true] at q
    exact ax_brt rfl (d68 hx (by decide) q)
  simp only [h1, Bool.and_false, Bool.false_and, Bool.and_true, Bool.true_and, cond_false, cond_true] at q
  refine ax_brf (by decide) ?_
  refine d62 hx.s0 ?_
  try simp (disch := omega) only [hx.1.all, wr_s, in_nI, clN, ti_z, ti_l, true_and, and_true, kI, zI, rI, kL, zL, rL, kR, zR, nnI, nnL, nnR, iL, iR, lI, lR, exi, exl, exv, eq_self, nI_add, nI_mul, nI_sub, nI_ltI, nI_leI, nI_eq, q0, q1, q2, q3, q4, q5, q6, q10, q100, br_Tr, br_Fa, iI_s, iI_n, bI_q0, bI_q1, or_true, true_or, not_true_eq_false, not_false_eq_true, nI_l, ge64, Nat.lt_irrefl, Nat.add_sub_cancel, Nat.not_lt_zero, lN_0, lN_1e4, lN_1e6, lN_1e3, lN_add, lN_mul, lN_ltI, lN_leI, lN_eqI, lN_i, lcE, lcLe, lcLt, lN_div, q7, q12, q20, q99, q200, q999, q1e4, if_true, if_false, Nat.le_refl]
  cases h2 : inN y (cn st 0)
  · simp only [h2, Bool.and_false, Bool.false_and, Bool.and_true, Bool.true_and, cond_false, cond_true] at q
    exact ax_brt rfl (d68 hx (by decide) q)
  simp only [h2, Bool.and_false, Bool.false_and, Bool.and_true, Bool.true_and, cond_false, cond_true] at q
  refine ax_brf (by decide) ?_
  refine ax_brc (fun h3 => ?_) (fun h3 => ?_)
  · rw [decide_eq_true h3] at q
    exact d68 hx (by decide) q
  rw [decide_eq_false h3] at q
  refine d57 (n := 6) (by omega) ?_
  try simp (disch := omega) only [hx.1.all, wr_s, in_nI, clN, ti_z, ti_l, true_and, and_true, kI, zI, rI, kL, zL, rL, kR, zR, nnI, nnL, nnR, iL, iR, lI, lR, exi, exl, exv, eq_self, nI_add, nI_mul, nI_sub, nI_ltI, nI_leI, nI_eq, q0, q1, q2, q3, q4, q5, q6, q10, q100, br_Tr, br_Fa, iI_s, iI_n, bI_q0, bI_q1, or_true, true_or, not_true_eq_false, not_false_eq_true, nI_l, ge64, Nat.lt_irrefl, Nat.add_sub_cancel, Nat.not_lt_zero, lN_0, lN_1e4, lN_1e6, lN_1e3, lN_add, lN_mul, lN_ltI, lN_leI, lN_eqI, lN_i, lcE, lcLe, lcLt, lN_div, q7, q12, q20, q99, q200, q999, q1e4, if_true, if_false, Nat.le_refl]
  cases h4 : inN z 7
  · simp only [h4, Bool.and_false, cond_false] at q
    exact ax_brt rfl (d68 hx (by decide) q)
  simp only [h4, Bool.not_false, Bool.true_and, cond_true] at q
  refine ax_brf (by decide) ?_
  obtain ⟨t, hh1, rfl⟩ := inN_t (by omega) h1
  obtain ⟨m, hh2, rfl⟩ := inN_t (by omega) h2
  obtain ⟨h, hh4, rfl⟩ := inN_t (by omega) h4
  obtain ⟨N, hM0, hN, hl, he⟩ := hx.mb hh1
  have hM := hM0.s0 (v := nI 0)
  have hbd := hM0.bd
  have hm0 : m ≠ 0 := fun e => h3 (by rw [e])
  simp only [cl_nI (show t < 2 ^ 31 by omega), cl_nI (show m < 2 ^ 31 by omega), cl_nI (show h < 2 ^ 31 by omega)] at q
  have room : (decide (nI h ≤ nI 4) && !inK w 999) = false → (h ≤ 4 → inK w 999 = true) → (ax_Rw l G ax_h230 (ax_E G ax_h230 (fun x μ' => ∃ v : Int32, x = some (ax_i v) ∧ K v μ')) 64 [(0, ax_r (some 332)), (1, ax_i (nI t)), (2, ax_i (nI m)), (3, ax_i (nI h)), (4, ax_i w)] [] 0 0 (sI μ 332 0 (nI 0))) := by
    intro hk hw
    rw [hk] at q
    simp only [cond_false] at q
    refine sg230_64 l G _ 332 _ _ _ _ _ ?_
    try simp (disch := omega) only [hM0.1.1.2.1.all, hM0.1.1.2.2.1, hM0.1.1.2.2.2.1.all, hM0.1.1.2.2.2.all, hM0.1.2, hM0.2, wr_s, in_nI, clN, ti_z, ti_l, true_and, and_true, kI, zI, rI, kL, zL, rL, kR, zR, nnI, nnL, nnR, iL, iR, lI, lR, exi, exl, exv, eq_self, nI_add, nI_mul, nI_sub, nI_ltI, nI_leI, nI_eq, q0, q1, q2, q3, q4, q5, q6, q10, q100, br_Tr, br_Fa, iI_s, iI_n, bI_q0, bI_q1, or_true, true_or, not_true_eq_false, not_false_eq_true, nI_l, ge64, Nat.lt_irrefl, Nat.add_sub_cancel, Nat.not_lt_zero, lN_0, lN_1e4, lN_1e6, lN_1e3, lN_add, lN_mul, lN_ltI, lN_leI, lN_eqI, lN_i, lcE, lcLe, lcLt, lN_div, q7, q12, q20, q99, q200, q999, q1e4, if_true, if_false, Nat.le_refl]
    refine ax_brc (fun hc => ?_) (fun hc => ?_)
    · rw [if_neg (by omega)] at q
      exact d68 hx (by decide) q
    rw [if_pos (by omega)] at q
    have hv : h ≤ 4 → w = nI (if h ≤ 4 then cl w else 0) := by
      intro h4
      have hw := hw h4
      rw [inK_L (by omega)] at hw
      obtain ⟨j, hj1, hj2, rfl⟩ := inL_t (by omega) hw
      rw [if_pos h4, cl_nI (by omega)]
    have hv2 : h ≤ 4 → 1 ≤ (if h ≤ 4 then cl w else 0) ∧ (if h ≤ 4 then cl w else 0) ≤ 999 := by
      intro h4
      have hw := hw h4
      rw [inK_L (by omega)] at hw
      obtain ⟨j, hj1, hj2, rfl⟩ := inL_t (by omega) hw
      rw [if_pos h4, cl_nI (by omega)]
      omega
    generalize (if h ≤ 4 then cl w else 0) = bb at q hv hv2
    have fin : ∀ v, (h ≤ 4 → v = nI bb) → ax_CV l G 214 [ax_r (some 332), ax_i (nI t), ax_i (nI m), ax_i (nI h), ax_i v] (sI μ 332 0 (nI 0)) (fun m4 => mK m4 332 = 12 ∧ ax_wr (gR m4 332 3) fun a5 => mK m4 a5 = 11 ∧ mK m4 332 = 12 ∧ ax_CI l G 51 [ax_r (some 332), ax_i (gI m4 a5 3)] m4 fun y7 m6 => K y7 m6) := by
      intro v hvv
      refine d214 (b := bb) hM (by omega) (by omega) (by omega) (by omega) hv2 (by omega) hvv (fun μ1 f1 hc1 => ?_)
      have hx1 : Mx μ1 (sLd st (adc (ldo st) t m h bb)) :=
        hx.s0 (v := nI 0) |>.mk2 (μ1 := μ1) (N := N) (Nat.le_of_eq f1.1.symm) (fun c hc k => f1.I (by unfold PCm; omega)) (by have e := f1.1; unfold mN at *; have e2 : (sI μ 332 0 (nI 0)).1 = μ.1 := rfl; omega) hc1
      have e3 : nCh (adc (ldo st) t m h bb) = cn st 3 + 1 := by rw [he.2.2.2.1]; rfl
      have hbd1 := hc1.bd
      try simp (disch := omega) only [hc1.1.1.2.1.all, hc1.1.1.2.2.1, hc1.1.1.2.2.2.1.all, hc1.1.1.2.2.2.all, hc1.1.2, hc1.2, e3, wr_s, in_nI, clN, ti_z, ti_l, true_and, and_true, kI, zI, rI, kL, zL, rL, kR, zR, nnI, nnL, nnR, iL, iR, lI, lR, exi, exl, exv, eq_self, nI_add, nI_mul, nI_sub, nI_ltI, nI_leI, nI_eq, q0, q1, q2, q3, q4, q5, q6, q10, q100, br_Tr, br_Fa, iI_s, iI_n, bI_q0, bI_q1, or_true, true_or, not_true_eq_false, not_false_eq_true, nI_l, ge64, Nat.lt_irrefl, Nat.add_sub_cancel, Nat.not_lt_zero, lN_0, lN_1e4, lN_1e6, lN_1e3, lN_add, lN_mul, lN_ltI, lN_leI, lN_eqI, lN_i, lcE, lcLe, lcLt, lN_div, q7, q12, q20, q99, q200, q999, q1e4, if_true, if_false, Nat.le_refl]
      refine d51' hx1 (fun μ2 o2 hx2 => ?_)
      exact q μ2 ((OutM.s0.F f1 (fun b k q => by unfold PCm at q; omega)).trans o2) hx2
    refine ax_brc (fun h5 => fin w hv) (fun h5 => fin (nI 0) (fun h4 => by omega))
  try simp (disch := omega) only [hM0.1.1.2.1.all, hM0.1.1.2.2.1, hM0.1.1.2.2.2.1.all, hM0.1.1.2.2.2.all, hM0.1.2, hM0.2, wr_s, in_nI, clN, ti_z, ti_l, true_and, and_true, kI, zI, rI, kL, zL, rL, kR, zR, nnI, nnL, nnR, iL, iR, lI, lR, exi, exl, exv, eq_self, nI_add, nI_mul, nI_sub, nI_ltI, nI_leI, nI_eq, q0, q1, q2, q3, q4, q5, q6, q10, q100, br_Tr, br_Fa, iI_s, iI_n, bI_q0, bI_q1, or_true, true_or, not_true_eq_false, not_false_eq_true, nI_l, ge64, Nat.lt_irrefl, Nat.add_sub_cancel, Nat.not_lt_zero, lN_0, lN_1e4, lN_1e6, lN_1e3, lN_add, lN_mul, lN_ltI, lN_leI, lN_eqI, lN_i, lcE, lcLe, lcLt, lN_div, q7, q12, q20, q99, q200, q999, q1e4, if_true, if_false, Nat.le_refl]
  refine ax_brc (fun h5 => ?_) (fun h5 => ?_)
  · refine d57k ?_
    try simp (disch := omega) only [hM0.1.1.2.1.all, hM0.1.1.2.2.1, hM0.1.1.2.2.2.1.all, hM0.1.1.2.2.2.all, hM0.1.2, hM0.2, wr_s, in_nI, clN, ti_z, ti_l, true_and, and_true, kI, zI, rI, kL, zL, rL, kR, zR, nnI, nnL, nnR, iL, iR, lI, lR, exi, exl, exv, eq_self, nI_add, nI_mul, nI_sub, nI_ltI, nI_leI, nI_eq, q0, q1, q2, q3, q4, q5, q6, q10, q100, br_Tr, br_Fa, iI_s, iI_n, bI_q0, bI_q1, or_true, true_or, not_true_eq_false, not_false_eq_true, nI_l, ge64, Nat.lt_irrefl, Nat.add_sub_cancel, Nat.not_lt_zero, lN_0, lN_1e4, lN_1e6, lN_1e3, lN_add, lN_mul, lN_ltI, lN_leI, lN_eqI, lN_i, lcE, lcLe, lcLt, lN_div, q7, q12, q20, q99, q200, q999, q1e4, if_true, if_false, Nat.le_refl]
    have e4 : decide (nI h ≤ nI 4) = true := by rw [decide_eq_true_eq, nI_leI (by omega) (by omega)]; omega
    cases hk : inK w 999
    · rw [hk, e4] at q
      exact ax_brt rfl (d68 hx (by decide) q)
    · exact ax_brf (by decide) (room (by rw [hk]; simp) (fun _ => hk))
  · have e4 : decide (nI h ≤ nI 4) = false := by rw [decide_eq_false_iff_not, nI_leI (by omega) (by omega)]; omega
    exact room (by rw [e4]; rfl) (fun h4 => by omega)
theorem m238 {K : Int32 → ax_M → Prop} (hx : Mx μ st) (q : ∀ μ', OutM μ μ' → Mx μ' (aUndo st).2 → K (bI (aUndo st).1) μ') : ax_CI l G 238 [ax_r (some 332)] μ K := by
  have hb := hx.bd
  unfold aUndo at q
  refine ax_Ct.of (by decide) (Nat.le_of_ble_eq_true rfl) (sg238_0 l G _ 332 _ ?_)
  try simp (disch := omega) only [hx.1.all, wr_s, in_nI, clN, ti_z, ti_l, true_and, and_true, kI, zI, rI, kL, zL, rL, kR, zR, nnI, nnL, nnR, iL, iR, lI, lR, exi, exl, exv, eq_self, nI_add, nI_mul, nI_sub, nI_ltI, nI_leI, nI_eq, q0, q1, q2, q3, q4, q5, q6, q10, q100, br_Tr, br_Fa, iI_s, iI_n, bI_q0, bI_q1, or_true, true_or, not_true_eq_false, not_false_eq_true, nI_l, ge64, Nat.lt_irrefl, Nat.add_sub_cancel, Nat.not_lt_zero, lN_0, lN_1e4, lN_1e6, lN_1e3, lN_add, lN_mul, lN_ltI, lN_leI, lN_eqI, lN_i, lcE, lcLe, lcLt, lN_div, q7, q12, q20, q99, q200, q999, q1e4, if_true, if_false, Nat.le_refl]
  rcases hx.2.2.2.2 with ⟨h5, h5'⟩ | ⟨a, N, h6, h7, h8⟩
  · have c0 : ∀ k, cn st k = 0 := fun k => by unfold cn; rw [h5]
    rw [c0, c0, if_pos (Nat.le_refl _)] at q
    exact ax_brt h5' (d68 hx (by decide) q)
  · have hbd := h8.bd
    have c3 : cn st 3 = nCh a := cn_a h6 3
    have c4 : cn st 4 = nTo a := cn_a h6 4
    have el : ldo st = a := ldo_a h6
    rw [c3, c4, el] at q
    refine ax_brf (by rw [h8.1.1.2.2.1]; exact fun e => by cases e) ⟨by rw [h8.1.1.2.2.1]; exact fun e => by cases e; omega, ?_⟩
    try simp (disch := omega) only [h8.1.1.2.1.all, h8.1.1.2.2.1, h8.1.1.2.2.2.1.all, h8.1.1.2.2.2.all, h8.1.2, h8.2, wr_s, in_nI, clN, ti_z, ti_l, true_and, and_true, kI, zI, rI, kL, zL, rL, kR, zR, nnI, nnL, nnR, iL, iR, lI, lR, exi, exl, exv, eq_self, nI_add, nI_mul, nI_sub, nI_ltI, nI_leI, nI_eq, q0, q1, q2, q3, q4, q5, q6, q10, q100, br_Tr, br_Fa, iI_s, iI_n, bI_q0, bI_q1, or_true, true_or, not_true_eq_false, not_false_eq_true, nI_l, ge64, Nat.lt_irrefl, Nat.add_sub_cancel, Nat.not_lt_zero, lN_0, lN_1e4, lN_1e6, lN_1e3, lN_add, lN_mul, lN_ltI, lN_leI, lN_eqI, lN_i, lcE, lcLe, lcLt, lN_div, q7, q12, q20, q99, q200, q999, q1e4, if_true, if_false, Nat.le_refl]
    refine ax_brc (fun hc => ?_) (fun hc => ?_)
    · rw [if_pos (by omega)] at q
      exact d68 hx (by decide) q
    · rw [if_neg (by omega)] at q
      have hM := h8.s0 (v := nI 0)
      have hr := hM.1.1.2.2.2.dp
      have hw1 : MW (sI (sI μ 332 0 (nI 0)) N 3 (nI (nCh a - 1))) N (dpc a) := ⟨dpc_ok hM.1.1.1 (by omega), hM.1.1.2.1.fr ((Fr.refl (fun _ _ => True) _).put trivial), hM.1.1.2.2.1, hr⟩
      refine d216 hM.1.1.2.1 hM.1.1.2.2.2.1 hM.1.1.2.2.1 (c := nCh a - 1) (by rw [hM.1.1.2.2.2.2.1 3 (by omega)]; congr 1; show nCh a = _; omega) hw1 (fun μ1 f1 hc1 => ?_)
      have f0 : Fr (PCm N 0) (sI μ 332 0 (nI 0)) μ1 := ((Fr.refl _ _).put (Or.inr (Or.inr ⟨rfl, rfl⟩))).trans (f1.mono (fun b k q => Or.inl q))
      have hx1 : Mx μ1 (sLd st (dpc a)) :=
        hx.s0 (v := nI 0) |>.mk2 (μ1 := μ1) (N := N) (Nat.le_of_eq f0.1.symm) (fun c hc k => f0.I (by unfold PCm; omega)) (by have e := f0.1; unfold mN at *; have e2 : (sI μ 332 0 (nI 0)).1 = μ.1 := rfl; omega) hc1
      try simp (disch := omega) only [hx1.1.all, wr_s, in_nI, clN, ti_z, ti_l, true_and, and_true, kI, zI, rI, kL, zL, rL, kR, zR, nnI, nnL, nnR, iL, iR, lI, lR, exi, exl, exv, eq_self, nI_add, nI_mul, nI_sub, nI_ltI, nI_leI, nI_eq, q0, q1, q2, q3, q4, q5, q6, q10, q100, br_Tr, br_Fa, iI_s, iI_n, bI_q0, bI_q1, or_true, true_or, not_true_eq_false, not_false_eq_true, nI_l, ge64, Nat.lt_irrefl, Nat.add_sub_cancel, Nat.not_lt_zero, lN_0, lN_1e4, lN_1e6, lN_1e3, lN_add, lN_mul, lN_ltI, lN_leI, lN_eqI, lN_i, lcE, lcLe, lcLt, lN_div, q7, q12, q20, q99, q200, q999, q1e4, if_true, if_false, Nat.le_refl]
      refine d51' hx1 (fun μ2 o2 hx2 => ?_)
      exact q μ2 ((OutM.s0.F f0 (fun b k q => by unfold PCm at q; omega)).trans o2) hx2
theorem m152 {x y : Int32} {K : Int32 → ax_M → Prop} (hx : Mx μ st) (q : ∀ μ', OutM μ μ' → Mx μ' st → gI μ' 332 0 = (aLed st x y).elim (nI 1) (fun _ => nI 0) → K ((aLed st x y).elim (nI 0) nI) μ') : ax_CI l G 152 [ax_r (some 332), ax_i x, ax_i y] μ K := by
  have hb := hx.bd
  unfold aLed at q
  have hx0 := hx.s0 (v := nI 0)
  refine ax_Ct.of (by decide) (Nat.le_of_ble_eq_true rfl) (sg152_0 l G _ 332 _ _ _ ?_)
  try simp (disch := omega) only [hx.1.all, wr_s, in_nI, clN, ti_z, ti_l, true_and, and_true, kI, zI, rI, kL, zL, rL, kR, zR, nnI, nnL, nnR, iL, iR, lI, lR, exi, exl, exv, eq_self, nI_add, nI_mul, nI_sub, nI_ltI, nI_leI, nI_eq, q0, q1, q2, q3, q4, q5, q6, q10, q100, br_Tr, br_Fa, iI_s, iI_n, bI_q0, bI_q1, or_true, true_or, not_true_eq_false, not_false_eq_true, nI_l, ge64, Nat.lt_irrefl, Nat.add_sub_cancel, Nat.not_lt_zero, lN_0, lN_1e4, lN_1e6, lN_1e3, lN_add, lN_mul, lN_ltI, lN_leI, lN_eqI, lN_i, lcE, lcLe, lcLt, lN_div, q7, q12, q20, q99, q200, q999, q1e4, if_true, if_false, Nat.le_refl]
  cases h1 : inN x (cn st 5)
  · rw [h1] at q
    refine sg152_10 l G _ 332 _ _ _ _ _ ?_
    try simp (disch := omega) only [hx.1.all, wr_s, in_nI, clN, ti_z, ti_l, true_and, and_true, kI, zI, rI, kL, zL, rL, kR, zR, nnI, nnL, nnR, iL, iR, lI, lR, exi, exl, exv, eq_self, nI_add, nI_mul, nI_sub, nI_ltI, nI_leI, nI_eq, q0, q1, q2, q3, q4, q5, q6, q10, q100, br_Tr, br_Fa, iI_s, iI_n, bI_q0, bI_q1, or_true, true_or, not_true_eq_false, not_false_eq_true, nI_l, ge64, Nat.lt_irrefl, Nat.add_sub_cancel, Nat.not_lt_zero, lN_0, lN_1e4, lN_1e6, lN_1e3, lN_add, lN_mul, lN_ltI, lN_leI, lN_eqI, lN_i, lcE, lcLe, lcLt, lN_div, q7, q12, q20, q99, q200, q999, q1e4, if_true, if_false, Nat.le_refl]
    refine d60 hx0 ?_
    rw [h1]
    try simp (disch := omega) only [hx.1.all, wr_s, in_nI, clN, ti_z, ti_l, true_and, and_true, kI, zI, rI, kL, zL, rL, kR, zR, nnI, nnL, nnR, iL, iR, lI, lR, exi, exl, exv, eq_self, nI_add, nI_mul, nI_sub, nI_ltI, nI_leI, nI_eq, q0, q1, q2, q3, q4, q5, q6, q10, q100, br_Tr, br_Fa, iI_s, iI_n, bI_q0, bI_q1, or_true, true_or, not_true_eq_false, not_false_eq_true, nI_l, ge64, Nat.lt_irrefl, Nat.add_sub_cancel, Nat.not_lt_zero, lN_0, lN_1e4, lN_1e6, lN_1e3, lN_add, lN_mul, lN_ltI, lN_leI, lN_eqI, lN_i, lcE, lcLe, lcLt, lN_div, q7, q12, q20, q99, q200, q999, q1e4, if_true, if_false, Nat.le_refl]
    exact q _ (OutM.s0.I (by omega)) hx0.s0 (iI_s _ _ _ _)
  · rw [h1] at q
    obtain ⟨h, hh1, rfl⟩ := inN_t (by omega) h1
    obtain ⟨N, hM0, hN, hl, he⟩ := hx.mb hh1
    have hM := hM0.s0 (v := nI 0)
    have hbd := hM.bd
    rw [cl_nI (by omega)] at q
    have loop : ∀ k m n, m + k = nMo (ldo st) → 1 ≤ m → n < m → (∀ μ', OutM μ μ' → Mx μ' st → gI μ' 332 0 = (ledF (isLd (ldo st) h) y k m n).elim (nI 1) (fun _ => nI 0) → K ((ledF (isLd (ldo st) h) y k m n).elim (nI 0) nI) μ') → (ax_Rw l G ax_h152 (ax_E G ax_h152 (fun x μ' => ∃ v : Int32, x = some (ax_i v) ∧ K v μ')) 10 [(0, ax_r (some 332)), (1, ax_i (nI h)), (2, ax_i y), (3, ax_i (nI n)), (4, ax_i (nI m))] [] 0 0 (sI μ 332 0 (nI 0))) := by
      intro k
      induction k with
      | zero =>
        intro m n hk h1' hn q
        have : m = nMo (ldo st) := by omega
        subst this
        refine sg152_10 l G _ 332 _ _ _ _ _ ?_
        try simp (disch := omega) only [hx.1.all, wr_s, in_nI, clN, ti_z, ti_l, true_and, and_true, kI, zI, rI, kL, zL, rL, kR, zR, nnI, nnL, nnR, iL, iR, lI, lR, exi, exl, exv, eq_self, nI_add, nI_mul, nI_sub, nI_ltI, nI_leI, nI_eq, q0, q1, q2, q3, q4, q5, q6, q10, q100, br_Tr, br_Fa, iI_s, iI_n, bI_q0, bI_q1, or_true, true_or, not_true_eq_false, not_false_eq_true, nI_l, ge64, Nat.lt_irrefl, Nat.add_sub_cancel, Nat.not_lt_zero, lN_0, lN_1e4, lN_1e6, lN_1e3, lN_add, lN_mul, lN_ltI, lN_leI, lN_eqI, lN_i, lcE, lcLe, lcLt, lN_div, q7, q12, q20, q99, q200, q999, q1e4, if_true, if_false, Nat.le_refl]
        refine d60 hx0 ?_
        rw [h1]
        try simp (disch := omega) only [hx.1.all, hM0.1.1.2.1.all, hM0.1.1.2.2.1, hM0.1.1.2.2.2.1.all, hM0.1.1.2.2.2.all, hM0.1.2, hM0.2, wr_s, in_nI, clN, ti_z, ti_l, true_and, and_true, kI, zI, rI, kL, zL, rL, kR, zR, nnI, nnL, nnR, iL, iR, lI, lR, exi, exl, exv, eq_self, nI_add, nI_mul, nI_sub, nI_ltI, nI_leI, nI_eq, q0, q1, q2, q3, q4, q5, q6, q10, q100, br_Tr, br_Fa, iI_s, iI_n, bI_q0, bI_q1, or_true, true_or, not_true_eq_false, not_false_eq_true, nI_l, ge64, Nat.lt_irrefl, Nat.add_sub_cancel, Nat.not_lt_zero, lN_0, lN_1e4, lN_1e6, lN_1e3, lN_add, lN_mul, lN_ltI, lN_leI, lN_eqI, lN_i, lcE, lcLe, lcLt, lN_div, q7, q12, q20, q99, q200, q999, q1e4, if_true, if_false, Nat.le_refl]
        refine ax_brf (by decide) ?_
        exact q _ (OutM.s0.I (by omega)) hx0.s0 (iI_s _ _ _ _)
      | succ k ih =>
        intro m n hk h1' hn q
        unfold ledF at q
        obtain ⟨m, rfl⟩ : ∃ j, m = j + 1 := ⟨m - 1, by omega⟩
        refine sg152_10 l G _ 332 _ _ _ _ _ ?_
        try simp (disch := omega) only [hx.1.all, wr_s, in_nI, clN, ti_z, ti_l, true_and, and_true, kI, zI, rI, kL, zL, rL, kR, zR, nnI, nnL, nnR, iL, iR, lI, lR, exi, exl, exv, eq_self, nI_add, nI_mul, nI_sub, nI_ltI, nI_leI, nI_eq, q0, q1, q2, q3, q4, q5, q6, q10, q100, br_Tr, br_Fa, iI_s, iI_n, bI_q0, bI_q1, or_true, true_or, not_true_eq_false, not_false_eq_true, nI_l, ge64, Nat.lt_irrefl, Nat.add_sub_cancel, Nat.not_lt_zero, lN_0, lN_1e4, lN_1e6, lN_1e3, lN_add, lN_mul, lN_ltI, lN_leI, lN_eqI, lN_i, lcE, lcLe, lcLt, lN_div, q7, q12, q20, q99, q200, q999, q1e4, if_true, if_false, Nat.le_refl]
        refine d60 hx0 ?_
        rw [h1]
        try simp (disch := omega) only [hx.1.all, hM0.1.1.2.1.all, hM0.1.1.2.2.1, hM0.1.1.2.2.2.1.all, hM0.1.1.2.2.2.all, hM0.1.2, hM0.2, show m + 1 < nMo (ldo st) by omega, wr_s, in_nI, clN, ti_z, ti_l, true_and, and_true, kI, zI, rI, kL, zL, rL, kR, zR, nnI, nnL, nnR, iL, iR, lI, lR, exi, exl, exv, eq_self, nI_add, nI_mul, nI_sub, nI_ltI, nI_leI, nI_eq, q0, q1, q2, q3, q4, q5, q6, q10, q100, br_Tr, br_Fa, iI_s, iI_n, bI_q0, bI_q1, or_true, true_or, not_true_eq_false, not_false_eq_true, nI_l, ge64, Nat.lt_irrefl, Nat.add_sub_cancel, Nat.not_lt_zero, lN_0, lN_1e4, lN_1e6, lN_1e3, lN_add, lN_mul, lN_ltI, lN_leI, lN_eqI, lN_i, lcE, lcLe, lcLt, lN_div, q7, q12, q20, q99, q200, q999, q1e4, if_true, if_false, Nat.le_refl]
        refine ax_brf (by decide) ?_
        refine d112 hM (by omega) (by omega) ?_
        try simp (disch := omega) only [wr_s, in_nI, clN, ti_z, ti_l, true_and, and_true, kI, zI, rI, kL, zL, rL, kR, zR, nnI, nnL, nnR, iL, iR, lI, lR, exi, exl, exv, eq_self, nI_add, nI_mul, nI_sub, nI_ltI, nI_leI, nI_eq, q0, q1, q2, q3, q4, q5, q6, q10, q100, br_Tr, br_Fa, iI_s, iI_n, bI_q0, bI_q1, or_true, true_or, not_true_eq_false, not_false_eq_true, nI_l, ge64, Nat.lt_irrefl, Nat.add_sub_cancel, Nat.not_lt_zero, lN_0, lN_1e4, lN_1e6, lN_1e3, lN_add, lN_mul, lN_ltI, lN_leI, lN_eqI, lN_i, lcE, lcLe, lcLt, lN_div, q7, q12, q20, q99, q200, q999, q1e4, if_true, if_false, Nat.le_refl]
        refine ax_brc (fun hf => ?_) (fun hf => ?_)
        · rw [if_neg (by rw [hf]; exact Bool.false_ne_true)] at q
          exact ih (m + 1 + 1) n (by omega) (by omega) (by omega) q
        · rw [if_pos (by simpa using hf)] at q
          refine ax_brc (fun he => ?_) (fun he => ?_)
          · rw [if_pos he] at q
            exact q _ OutM.s0 hx0 (iI_s _ _ _ _)
          · rw [if_neg he] at q
            exact ih (m + 1 + 1) (n + 1) (by omega) (by omega) (by omega) q
    exact loop (nMo (ldo st) - 1) 1 0 (by omega) (by omega) (by omega) q
end F9
