/-! the model: loops over its tables -/
theorem sub_le0 {x y : Nat} (hx : x < 2 ^ 31) (hy : y < 2 ^ 31) : (nI x - nI y ≤ nI 0) = (x ≤ y) := by
  rw [Int32.le_iff_toInt_le, nI_subI hx hy, nI_toInt (by omega)]
  exact propext ⟨fun h => by omega, fun h => by omega⟩
theorem sub_leN {p g o : Nat} (hp : p < 2 ^ 31) (hg : g < 2 ^ 31) (ho : o < 2 ^ 31) : (nI p - nI g ≤ nI o) = (p ≤ g + o) := by
  rw [Int32.le_iff_toInt_le, nI_subI hp hg, nI_toInt ho]
  exact propext ⟨fun h => by omega, fun h => by omega⟩
theorem neg_leN {p g o : Nat} (hp : p < 2 ^ 31) (hg : g < 2 ^ 31) (ho : o < 2 ^ 31) : (-(nI p - nI g) ≤ nI o) = (g ≤ p + o) := by
  rw [Int32.neg_sub]; exact sub_leN hg hp ho
theorem nrK_n {a : Ld} {h m o : Nat} : nrK a h m (o + 1) ≠ none := by
  unfold nrK
  split
  · exact fun e => by cases e
  · split
    · exact fun e => by cases e
    · exact fun e => by cases e
def e8 (o : Option (Nat × Nat)) : Int32 := match o with
  | none => 0
  | some b => nI b.1
section F4
variable {l : Launch} {G : ax_G} {μ : ax_M} {N : Nat} {a : Ld}
theorem d67 {o m : Nat} {K : Int32 → ax_M → Prop} (hc : MW μ N a) (ho : o < nOf a) (hm : m < nMo a) (q : K (nI (lsM a o m)) μ) : ax_CI l G 67 [ax_r (some 332), ax_i (nI o), ax_i (nI m)] μ K := by
  have hb := hc.bd
  unfold lsM at q
  refine ax_Ct.of (by decide) (Nat.le_of_ble_eq_true rfl) (sg67_0 l G _ 332 _ _ _ ?_)
  try simp (disch := omega) only [hc.2.1.all, hc.2.2.1, hc.2.2.2.1.all, hc.2.2.2.all, wr_s, in_nI, clN, ti_z, ti_l, true_and, and_true, kI, zI, rI, kL, zL, rL, kR, zR, nnI, nnL, nnR, iL, iR, lI, lR, exi, exl, exv, eq_self, nI_add, nI_mul, nI_ltI, nI_leI, nI_eq, q0, q1, q2, q3, q4, q5, q6, q10, q100, br_Tr, br_Fa, iI_s, iI_n, bI_q0, bI_q1, or_true, true_or, not_true_eq_false, not_false_eq_true, nI_l, ge64, Nat.lt_irrefl, Nat.add_sub_cancel, Nat.not_lt_zero, lN_0, lN_1e4, lN_1e6, lN_1e3, lN_add, lN_mul, lN_ltI, lN_leI, lN_eqI, lN_i, lcE, lcLe, lcLt, lN_div, q7, q12, q20, q99, q200, q999, q1e4, if_true, if_false, Nat.le_refl]
  refine ax_brc (fun h1 => ?_) (fun h1 => ?_)
  · rw [show m - 1 = 0 by omega, ite_self] at q
    exact q
  · refine ax_brc (fun h2 => ?_) (fun h2 => ?_)
    · rw [if_neg (by simpa using h2)] at q; exact q
    · rw [if_pos (by simpa using h2)] at q
      rw [nI_sub (by omega)]; exact q
theorem d110 {m : Nat} {K : Int32 → ax_M → Prop} (hc : MT μ N a) (hm : m < nMo a) (q : K (bI (isBk a m)) μ) : ax_CI l G 110 [ax_r (some 332), ax_i (nI m)] μ K := by
  have hb := hc.bd
  unfold isBk at q
  refine ax_Ct.of (by decide) (Nat.le_of_ble_eq_true rfl) (sg110_0 l G _ 332 _ _ ?_)
  refine up_to (P := fun t => (∀ j, j < t → asF a m j = true) → (ax_Rw l G ax_h110 (ax_E G ax_h110 (fun x μ' => ∃ v : Int32, x = some (ax_i v) ∧ K v μ')) 2 [(0, ax_r (some 332)), (1, ax_i (nI m)), (2, ax_i (nI t))] [] 0 0 μ)) (nTh a) (fun hf => ?_) (fun t ht ih hf => ?_) 0 (Nat.zero_le _) (fun j hj => by omega)
  · refine sg110_2 l G _ 332 _ _ _ ?_
    try simp (disch := omega) only [hc.1.2.1.all, hc.1.2.2.1, hc.1.2.2.2.1.all, hc.1.2.2.2.all, hc.2, wr_s, in_nI, clN, ti_z, ti_l, true_and, and_true, kI, zI, rI, kL, zL, rL, kR, zR, nnI, nnL, nnR, iL, iR, lI, lR, exi, exl, exv, eq_self, nI_add, nI_mul, nI_sub, nI_ltI, nI_leI, nI_eq, q0, q1, q2, q3, q4, q5, q6, q10, q100, br_Tr, br_Fa, iI_s, iI_n, bI_q0, bI_q1, or_true, true_or, not_true_eq_false, not_false_eq_true, nI_l, ge64, Nat.lt_irrefl, Nat.add_sub_cancel, Nat.not_lt_zero, lN_0, lN_1e4, lN_1e6, lN_1e3, lN_add, lN_mul, lN_ltI, lN_leI, lN_eqI, lN_i, lcE, lcLe, lcLt, lN_div, q7, q12, q20, q99, q200, q999, q1e4, if_true, if_false, Nat.le_refl]
    rw [allN_t hf, bI_1] at q
    exact q
  · have fail : asF a m t = false → K (nI 0) μ := fun e => by rw [allN_f ht e, bI_z] at q; exact q
    have goon : asF a m t = true → (ax_Rw l G ax_h110 (ax_E G ax_h110 (fun x μ' => ∃ v : Int32, x = some (ax_i v) ∧ K v μ')) 2 [(0, ax_r (some 332)), (1, ax_i (nI m)), (2, ax_i (nI (t + 1)))] [] 0 0 μ) := fun e => ih (lt_s hf e)
    obtain ⟨s1, s2, s3⟩ := stt_in hc.1.1 ht m
    obtain ⟨r1, r2, r3⟩ := stt_in hc.1.1 ht 0
    unfold asF at fail goon
    refine sg110_2 l G _ 332 _ _ _ ?_
    try simp (disch := omega) only [hc.1.2.1.all, hc.1.2.2.1, hc.1.2.2.2.1.all, hc.1.2.2.2.all, hc.2, ht, wr_s, in_nI, clN, ti_z, ti_l, true_and, and_true, kI, zI, rI, kL, zL, rL, kR, zR, nnI, nnL, nnR, iL, iR, lI, lR, exi, exl, exv, eq_self, nI_add, nI_mul, nI_sub, nI_ltI, nI_leI, nI_eq, q0, q1, q2, q3, q4, q5, q6, q10, q100, br_Tr, br_Fa, iI_s, iI_n, bI_q0, bI_q1, or_true, true_or, not_true_eq_false, not_false_eq_true, nI_l, ge64, Nat.lt_irrefl, Nat.add_sub_cancel, Nat.not_lt_zero, lN_0, lN_1e4, lN_1e6, lN_1e3, lN_add, lN_mul, lN_ltI, lN_leI, lN_eqI, lN_i, lcE, lcLe, lcLt, lN_div, q7, q12, q20, q99, q200, q999, q1e4, if_true, if_false, Nat.le_refl]
    refine d50 ?_
    refine d50 ?_
    try simp (disch := omega) only [hc.1.2.1.all, hc.1.2.2.1, hc.1.2.2.2.1.all, hc.1.2.2.2.all, hc.2, bI_eq, wr_s, in_nI, clN, ti_z, ti_l, true_and, and_true, kI, zI, rI, kL, zL, rL, kR, zR, nnI, nnL, nnR, iL, iR, lI, lR, exi, exl, exv, eq_self, nI_add, nI_mul, nI_sub, nI_ltI, nI_leI, nI_eq, q0, q1, q2, q3, q4, q5, q6, q10, q100, br_Tr, br_Fa, iI_s, iI_n, bI_q0, bI_q1, or_true, true_or, not_true_eq_false, not_false_eq_true, nI_l, ge64, Nat.lt_irrefl, Nat.add_sub_cancel, Nat.not_lt_zero, lN_0, lN_1e4, lN_1e6, lN_1e3, lN_add, lN_mul, lN_ltI, lN_leI, lN_eqI, lN_i, lcE, lcLe, lcLt, lN_div, q7, q12, q20, q99, q200, q999, q1e4, if_true, if_false, Nat.le_refl]
    refine ax_brc (fun h1 => ?_) (fun h1 => fail (by simp [h1]))
    refine ax_brc (fun h2 => goon (by have h3 := h1.symm.trans h2; simp [h2, h3])) (fun h2 => ?_)
    have h2 : Tr a t m = true := by simpa using h2
    refine ax_brc (fun h3 => ?_) (fun h3 => fail (by simp [h2, h3]))
    refine ax_brc (fun h4 => ?_) (fun h4 => fail (by simp [h2, h4]))
    refine ax_brc (fun h5 => ?_) (fun h5 => fail (by simp [h2, h5]))
    exact goon (by simp [h1, h3, h4, h5])
theorem d219 {o : Nat} {K : Int32 → ax_M → Prop} (hc : MB μ N a) (ho : o < nOf a) (q : K (bI (hs0 a o)) μ) : ax_CI l G 219 [ax_r (some 332), ax_i (nI o)] μ K := by
  have hb := hc.bd
  unfold hs0 at q
  refine ax_Ct.of (by decide) (Nat.le_of_ble_eq_true rfl) (sg219_0 l G _ 332 _ _ ?_)
  refine up_to (P := fun m => (∀ j, j < m → (!isBk a j || decide (num a o j = 10000)) = true) → (ax_Rw l G ax_h219 (ax_E G ax_h219 (fun x μ' => ∃ v : Int32, x = some (ax_i v) ∧ K v μ')) 2 [(0, ax_r (some 332)), (1, ax_i (nI o)), (2, ax_i (nI m))] [] 0 0 μ)) (nMo a) (fun hf => ?_) (fun m hm ih hf => ?_) 0 (Nat.zero_le _) (fun j hj => by omega)
  · refine sg219_2 l G _ 332 _ _ _ ?_
    try simp (disch := omega) only [hc.1.1.2.1.all, hc.1.1.2.2.1, hc.1.1.2.2.2.1.all, hc.1.1.2.2.2.all, hc.1.2, hc.2, wr_s, in_nI, clN, ti_z, ti_l, true_and, and_true, kI, zI, rI, kL, zL, rL, kR, zR, nnI, nnL, nnR, iL, iR, lI, lR, exi, exl, exv, eq_self, nI_add, nI_mul, nI_sub, nI_ltI, nI_leI, nI_eq, q0, q1, q2, q3, q4, q5, q6, q10, q100, br_Tr, br_Fa, iI_s, iI_n, bI_q0, bI_q1, or_true, true_or, not_true_eq_false, not_false_eq_true, nI_l, ge64, Nat.lt_irrefl, Nat.add_sub_cancel, Nat.not_lt_zero, lN_0, lN_1e4, lN_1e6, lN_1e3, lN_add, lN_mul, lN_ltI, lN_leI, lN_eqI, lN_i, lcE, lcLe, lcLt, lN_div, q7, q12, q20, q99, q200, q999, q1e4, if_true, if_false, Nat.le_refl]
    rw [allN_t hf, bI_1] at q
    exact q
  · have hn := num_in a o m
    refine sg219_2 l G _ 332 _ _ _ ?_
    try simp (disch := omega) only [hc.1.1.2.1.all, hc.1.1.2.2.1, hc.1.1.2.2.2.1.all, hc.1.1.2.2.2.all, hc.1.2, hc.2, hm, wr_s, in_nI, clN, ti_z, ti_l, true_and, and_true, kI, zI, rI, kL, zL, rL, kR, zR, nnI, nnL, nnR, iL, iR, lI, lR, exi, exl, exv, eq_self, nI_add, nI_mul, nI_sub, nI_ltI, nI_leI, nI_eq, q0, q1, q2, q3, q4, q5, q6, q10, q100, br_Tr, br_Fa, iI_s, iI_n, bI_q0, bI_q1, or_true, true_or, not_true_eq_false, not_false_eq_true, nI_l, ge64, Nat.lt_irrefl, Nat.add_sub_cancel, Nat.not_lt_zero, lN_0, lN_1e4, lN_1e6, lN_1e3, lN_add, lN_mul, lN_ltI, lN_leI, lN_eqI, lN_i, lcE, lcLe, lcLt, lN_div, q7, q12, q20, q99, q200, q999, q1e4, if_true, if_false, Nat.le_refl]
    refine d110 hc.1 hm ?_
    try simp (disch := omega) only [hc.1.1.2.1.all, hc.1.1.2.2.1, hc.1.1.2.2.2.1.all, hc.1.1.2.2.2.all, hc.1.2, hc.2, wr_s, in_nI, clN, ti_z, ti_l, true_and, and_true, kI, zI, rI, kL, zL, rL, kR, zR, nnI, nnL, nnR, iL, iR, lI, lR, exi, exl, exv, eq_self, nI_add, nI_mul, nI_sub, nI_ltI, nI_leI, nI_eq, q0, q1, q2, q3, q4, q5, q6, q10, q100, br_Tr, br_Fa, iI_s, iI_n, bI_q0, bI_q1, or_true, true_or, not_true_eq_false, not_false_eq_true, nI_l, ge64, Nat.lt_irrefl, Nat.add_sub_cancel, Nat.not_lt_zero, lN_0, lN_1e4, lN_1e6, lN_1e3, lN_add, lN_mul, lN_ltI, lN_leI, lN_eqI, lN_i, lcE, lcLe, lcLt, lN_div, q7, q12, q20, q99, q200, q999, q1e4, if_true, if_false, Nat.le_refl]
    refine ax_brc (fun h => ih (lt_s hf (by simp [h]))) (fun h => ?_)
    refine d204 hc ho hm ?_
    try simp (disch := omega) only [hc.1.1.2.1.all, hc.1.1.2.2.1, hc.1.1.2.2.2.1.all, hc.1.1.2.2.2.all, hc.1.2, hc.2, wr_s, in_nI, clN, ti_z, ti_l, true_and, and_true, kI, zI, rI, kL, zL, rL, kR, zR, nnI, nnL, nnR, iL, iR, lI, lR, exi, exl, exv, eq_self, nI_add, nI_mul, nI_sub, nI_ltI, nI_leI, nI_eq, q0, q1, q2, q3, q4, q5, q6, q10, q100, br_Tr, br_Fa, iI_s, iI_n, bI_q0, bI_q1, or_true, true_or, not_true_eq_false, not_false_eq_true, nI_l, ge64, Nat.lt_irrefl, Nat.add_sub_cancel, Nat.not_lt_zero, lN_0, lN_1e4, lN_1e6, lN_1e3, lN_add, lN_mul, lN_ltI, lN_leI, lN_eqI, lN_i, lcE, lcLe, lcLt, lN_div, q7, q12, q20, q99, q200, q999, q1e4, if_true, if_false, Nat.le_refl]
    refine ax_brc (fun h2 => ih (lt_s hf (by simp [h2]))) (fun h2 => ?_)
    rw [allN_f hm (by simp [show isBk a m = true by simpa using h, h2]), bI_z] at q
    exact q
theorem d151 {o : Nat} {K : Int32 → ax_M → Prop} (hc : MB μ N a) (ho : o < nOf a) (q : K (bI (hs1 a o)) μ) : ax_CI l G 151 [ax_r (some 332), ax_i (nI o)] μ K := by
  have hb := hc.bd
  have ha := hc.1.1.1
  unfold hs1 at q
  refine ax_Ct.of (by decide) (Nat.le_of_ble_eq_true rfl) (sg151_0 l G _ 332 _ _ ?_)
  try simp (disch := omega) only [wr_s, in_nI, clN, ti_z, ti_l, true_and, and_true, kI, zI, rI, kL, zL, rL, kR, zR, nnI, nnL, nnR, iL, iR, lI, lR, exi, exl, exv, eq_self, nI_add, nI_mul, nI_sub, nI_ltI, nI_leI, nI_eq, q0, q1, q2, q3, q4, q5, q6, q10, q100, br_Tr, br_Fa, iI_s, iI_n, bI_q0, bI_q1, or_true, true_or, not_true_eq_false, not_false_eq_true, nI_l, ge64, Nat.lt_irrefl, Nat.add_sub_cancel, Nat.not_lt_zero, lN_0, lN_1e4, lN_1e6, lN_1e3, lN_add, lN_mul, lN_ltI, lN_leI, lN_eqI, lN_i, lcE, lcLe, lcLt, lN_div, q7, q12, q20, q99, q200, q999, q1e4, if_true, if_false, Nat.le_refl]
  refine up_to (P := fun m => (∀ j, j < m → allN (fun t => !(decide (0 < allP a t (lsM a o j)) && !Tr a t j)) (nTh a) = true) → (ax_Rw l G ax_h151 (ax_E G ax_h151 (fun x μ' => ∃ v : Int32, x = some (ax_i v) ∧ K v μ')) 2 [(0, ax_r (some 332)), (1, ax_i (nI o)), (2, ax_i (nI m))] [] 0 0 μ)) (nMo a) (fun hf => ?_) (fun m hm ih hf => ?_) 1 (by omega) (fun j hj => ?_)
  · refine sg151_2 l G _ 332 _ _ _ ?_
    try simp (disch := omega) only [hc.1.1.2.1.all, hc.1.1.2.2.1, hc.1.1.2.2.2.1.all, hc.1.1.2.2.2.all, hc.1.2, hc.2, wr_s, in_nI, clN, ti_z, ti_l, true_and, and_true, kI, zI, rI, kL, zL, rL, kR, zR, nnI, nnL, nnR, iL, iR, lI, lR, exi, exl, exv, eq_self, nI_add, nI_mul, nI_sub, nI_ltI, nI_leI, nI_eq, q0, q1, q2, q3, q4, q5, q6, q10, q100, br_Tr, br_Fa, iI_s, iI_n, bI_q0, bI_q1, or_true, true_or, not_true_eq_false, not_false_eq_true, nI_l, ge64, Nat.lt_irrefl, Nat.add_sub_cancel, Nat.not_lt_zero, lN_0, lN_1e4, lN_1e6, lN_1e3, lN_add, lN_mul, lN_ltI, lN_leI, lN_eqI, lN_i, lcE, lcLe, lcLt, lN_div, q7, q12, q20, q99, q200, q999, q1e4, if_true, if_false, Nat.le_refl]
    rw [allN_t hf, bI_1] at q
    exact q
  · have hls := lsM_in (a := a) (o := o) hm
    refine sg151_2 l G _ 332 _ _ _ ?_
    try simp (disch := omega) only [hc.1.1.2.1.all, hc.1.1.2.2.1, hc.1.1.2.2.2.1.all, hc.1.1.2.2.2.all, hc.1.2, hc.2, hm, wr_s, in_nI, clN, ti_z, ti_l, true_and, and_true, kI, zI, rI, kL, zL, rL, kR, zR, nnI, nnL, nnR, iL, iR, lI, lR, exi, exl, exv, eq_self, nI_add, nI_mul, nI_sub, nI_ltI, nI_leI, nI_eq, q0, q1, q2, q3, q4, q5, q6, q10, q100, br_Tr, br_Fa, iI_s, iI_n, bI_q0, bI_q1, or_true, true_or, not_true_eq_false, not_false_eq_true, nI_l, ge64, Nat.lt_irrefl, Nat.add_sub_cancel, Nat.not_lt_zero, lN_0, lN_1e4, lN_1e6, lN_1e3, lN_add, lN_mul, lN_ltI, lN_leI, lN_eqI, lN_i, lcE, lcLe, lcLt, lN_div, q7, q12, q20, q99, q200, q999, q1e4, if_true, if_false, Nat.le_refl]
    refine up_to (P := fun t => (∀ j, j < t → (!(decide (0 < allP a j (lsM a o m)) && !Tr a j m)) = true) → (ax_Rw l G ax_h151 (ax_E G ax_h151 (fun x μ' => ∃ v : Int32, x = some (ax_i v) ∧ K v μ')) 15 [(0, ax_r (some 332)), (1, ax_i (nI o)), (2, ax_i (nI m)), (3, ax_i (nI t))] [] 0 0 μ)) (nTh a) (fun hg => ?_) (fun t ht ih' hg => ?_) 0 (Nat.zero_le _) (fun j hj => by omega)
    · refine sg151_15 l G _ 332 _ _ _ _ ?_
      try simp (disch := omega) only [hc.1.1.2.1.all, hc.1.1.2.2.1, hc.1.1.2.2.2.1.all, hc.1.1.2.2.2.all, hc.1.2, hc.2, wr_s, in_nI, clN, ti_z, ti_l, true_and, and_true, kI, zI, rI, kL, zL, rL, kR, zR, nnI, nnL, nnR, iL, iR, lI, lR, exi, exl, exv, eq_self, nI_add, nI_mul, nI_sub, nI_ltI, nI_leI, nI_eq, q0, q1, q2, q3, q4, q5, q6, q10, q100, br_Tr, br_Fa, iI_s, iI_n, bI_q0, bI_q1, or_true, true_or, not_true_eq_false, not_false_eq_true, nI_l, ge64, Nat.lt_irrefl, Nat.add_sub_cancel, Nat.not_lt_zero, lN_0, lN_1e4, lN_1e6, lN_1e3, lN_add, lN_mul, lN_ltI, lN_leI, lN_eqI, lN_i, lcE, lcLe, lcLt, lN_div, q7, q12, q20, q99, q200, q999, q1e4, if_true, if_false, Nat.le_refl]
      exact ih (lt_s hf (allN_t hg))
    · have hp := allP_in ha (m := lsM a o m) ht
      have hcn := cnt_in ha (o := o) (m := lsM a o m) ht
      have hc0 : cnt a o t (lsM a o m) ≤ 0 ↔ allP a t (lsM a o m) = 0 := by
        have hs := (stt_in ha ht (lsM a o m)).1.1
        unfold cnt
        split
        · rw [Nat.le_zero, Nat.mul_eq_zero]
          exact ⟨fun h => h.resolve_right (by omega), Or.inl⟩
        · omega
      refine sg151_15 l G _ 332 _ _ _ _ ?_
      try simp (disch := omega) only [hc.1.1.2.1.all, hc.1.1.2.2.1, hc.1.1.2.2.2.1.all, hc.1.1.2.2.2.all, hc.1.2, hc.2, ht, wr_s, in_nI, clN, ti_z, ti_l, true_and, and_true, kI, zI, rI, kL, zL, rL, kR, zR, nnI, nnL, nnR, iL, iR, lI, lR, exi, exl, exv, eq_self, nI_add, nI_mul, nI_sub, nI_ltI, nI_leI, nI_eq, q0, q1, q2, q3, q4, q5, q6, q10, q100, br_Tr, br_Fa, iI_s, iI_n, bI_q0, bI_q1, or_true, true_or, not_true_eq_false, not_false_eq_true, nI_l, ge64, Nat.lt_irrefl, Nat.add_sub_cancel, Nat.not_lt_zero, lN_0, lN_1e4, lN_1e6, lN_1e3, lN_add, lN_mul, lN_ltI, lN_leI, lN_eqI, lN_i, lcE, lcLe, lcLt, lN_div, q7, q12, q20, q99, q200, q999, q1e4, if_true, if_false, Nat.le_refl]
      refine d50 ?_
      try simp (disch := omega) only [hc.1.1.2.1.all, hc.1.1.2.2.1, hc.1.1.2.2.2.1.all, hc.1.1.2.2.2.all, hc.1.2, hc.2, wr_s, in_nI, clN, ti_z, ti_l, true_and, and_true, kI, zI, rI, kL, zL, rL, kR, zR, nnI, nnL, nnR, iL, iR, lI, lR, exi, exl, exv, eq_self, nI_add, nI_mul, nI_sub, nI_ltI, nI_leI, nI_eq, q0, q1, q2, q3, q4, q5, q6, q10, q100, br_Tr, br_Fa, iI_s, iI_n, bI_q0, bI_q1, or_true, true_or, not_true_eq_false, not_false_eq_true, nI_l, ge64, Nat.lt_irrefl, Nat.add_sub_cancel, Nat.not_lt_zero, lN_0, lN_1e4, lN_1e6, lN_1e3, lN_add, lN_mul, lN_ltI, lN_leI, lN_eqI, lN_i, lcE, lcLe, lcLt, lN_div, q7, q12, q20, q99, q200, q999, q1e4, if_true, if_false, Nat.le_refl]
      refine ax_brc (fun h2 => ?_) (fun h2 => ih' (lt_s hg (by simp [show Tr a t m = true by simpa using h2])))
      refine d67 hc.1.1 ho hm ?_
      try simp (disch := omega) only [hc.1.1.2.1.all, hc.1.1.2.2.1, hc.1.1.2.2.2.1.all, hc.1.1.2.2.2.all, hc.1.2, hc.2, wr_s, in_nI, clN, ti_z, ti_l, true_and, and_true, kI, zI, rI, kL, zL, rL, kR, zR, nnI, nnL, nnR, iL, iR, lI, lR, exi, exl, exv, eq_self, nI_add, nI_mul, nI_sub, nI_ltI, nI_leI, nI_eq, q0, q1, q2, q3, q4, q5, q6, q10, q100, br_Tr, br_Fa, iI_s, iI_n, bI_q0, bI_q1, or_true, true_or, not_true_eq_false, not_false_eq_true, nI_l, ge64, Nat.lt_irrefl, Nat.add_sub_cancel, Nat.not_lt_zero, lN_0, lN_1e4, lN_1e6, lN_1e3, lN_add, lN_mul, lN_ltI, lN_leI, lN_eqI, lN_i, lcE, lcLe, lcLt, lN_div, q7, q12, q20, q99, q200, q999, q1e4, if_true, if_false, Nat.le_refl]
      refine d108 hc ho ht hls ?_
      try simp (disch := omega) only [hc.1.1.2.1.all, hc.1.1.2.2.1, hc.1.1.2.2.2.1.all, hc.1.1.2.2.2.all, hc.1.2, hc.2, wr_s, in_nI, clN, ti_z, ti_l, true_and, and_true, kI, zI, rI, kL, zL, rL, kR, zR, nnI, nnL, nnR, iL, iR, lI, lR, exi, exl, exv, eq_self, nI_add, nI_mul, nI_sub, nI_ltI, nI_leI, nI_eq, q0, q1, q2, q3, q4, q5, q6, q10, q100, br_Tr, br_Fa, iI_s, iI_n, bI_q0, bI_q1, or_true, true_or, not_true_eq_false, not_false_eq_true, nI_l, ge64, Nat.lt_irrefl, Nat.add_sub_cancel, Nat.not_lt_zero, lN_0, lN_1e4, lN_1e6, lN_1e3, lN_add, lN_mul, lN_ltI, lN_leI, lN_eqI, lN_i, lcE, lcLe, lcLt, lN_div, q7, q12, q20, q99, q200, q999, q1e4, if_true, if_false, Nat.le_refl]
      rw [hc0]
      refine ax_brc (fun h => ih' (lt_s hg (by simp [h]))) (fun h => ?_)
      have e : allN (fun t => !(decide (0 < allP a t (lsM a o m)) && !Tr a t m)) (nTh a) = false := allN_f ht (by simp [h2, show 0 < allP a t (lsM a o m) by omega])
      rw [allN_f (f := fun m => allN (fun t => !(decide (0 < allP a t (lsM a o m)) && !Tr a t m)) (nTh a)) hm e, bI_z] at q
      exact q
  · have hj0 : j = 0 := by omega
    subst hj0
    refine allN_t (fun t ht => ?_)
    have e0 : lsM a o 0 = 0 := by unfold lsM; split <;> rfl
    rw [e0]
    by_cases h : allP a t 0 = 0
    · simp [h]
    · simp [allP_tr ha ht h]
theorem d218 {o : Nat} {K : Int32 → ax_M → Prop} (hc : MB μ N a) (ho : o < nOf a) (q : K (bI (hs2 a o)) μ) : ax_CI l G 218 [ax_r (some 332), ax_i (nI o)] μ K := by
  have hb := hc.bd
  unfold hs2 at q
  refine ax_Ct.of (by decide) (Nat.le_of_ble_eq_true rfl) (sg218_0 l G _ 332 _ _ ?_)
  refine up_to (P := fun m => (∀ j, j < m → allN (fun h => decide (liv a h j ≤ num a o j)) (nHo a) = true) → (ax_Rw l G ax_h218 (ax_E G ax_h218 (fun x μ' => ∃ v : Int32, x = some (ax_i v) ∧ K v μ')) 2 [(0, ax_r (some 332)), (1, ax_i (nI o)), (2, ax_i (nI m))] [] 0 0 μ)) (nMo a) (fun hf => ?_) (fun m hm ih hf => ?_) 0 (Nat.zero_le _) (fun j hj => by omega)
  · refine sg218_2 l G _ 332 _ _ _ ?_
    try simp (disch := omega) only [hc.1.1.2.1.all, hc.1.1.2.2.1, hc.1.1.2.2.2.1.all, hc.1.1.2.2.2.all, hc.1.2, hc.2, wr_s, in_nI, clN, ti_z, ti_l, true_and, and_true, kI, zI, rI, kL, zL, rL, kR, zR, nnI, nnL, nnR, iL, iR, lI, lR, exi, exl, exv, eq_self, nI_add, nI_mul, nI_sub, nI_ltI, nI_leI, nI_eq, q0, q1, q2, q3, q4, q5, q6, q10, q100, br_Tr, br_Fa, iI_s, iI_n, bI_q0, bI_q1, or_true, true_or, not_true_eq_false, not_false_eq_true, nI_l, ge64, Nat.lt_irrefl, Nat.add_sub_cancel, Nat.not_lt_zero, lN_0, lN_1e4, lN_1e6, lN_1e3, lN_add, lN_mul, lN_ltI, lN_leI, lN_eqI, lN_i, lcE, lcLe, lcLt, lN_div, q7, q12, q20, q99, q200, q999, q1e4, if_true, if_false, Nat.le_refl]
    rw [allN_t hf, bI_1] at q
    exact q
  · have hn := num_in a o m
    refine sg218_2 l G _ 332 _ _ _ ?_
    try simp (disch := omega) only [hc.1.1.2.1.all, hc.1.1.2.2.1, hc.1.1.2.2.2.1.all, hc.1.1.2.2.2.all, hc.1.2, hc.2, hm, wr_s, in_nI, clN, ti_z, ti_l, true_and, and_true, kI, zI, rI, kL, zL, rL, kR, zR, nnI, nnL, nnR, iL, iR, lI, lR, exi, exl, exv, eq_self, nI_add, nI_mul, nI_sub, nI_ltI, nI_leI, nI_eq, q0, q1, q2, q3, q4, q5, q6, q10, q100, br_Tr, br_Fa, iI_s, iI_n, bI_q0, bI_q1, or_true, true_or, not_true_eq_false, not_false_eq_true, nI_l, ge64, Nat.lt_irrefl, Nat.add_sub_cancel, Nat.not_lt_zero, lN_0, lN_1e4, lN_1e6, lN_1e3, lN_add, lN_mul, lN_ltI, lN_leI, lN_eqI, lN_i, lcE, lcLe, lcLt, lN_div, q7, q12, q20, q99, q200, q999, q1e4, if_true, if_false, Nat.le_refl]
    refine up_to (P := fun h => (∀ j, j < h → decide (liv a j m ≤ num a o m) = true) → (ax_Rw l G ax_h218 (ax_E G ax_h218 (fun x μ' => ∃ v : Int32, x = some (ax_i v) ∧ K v μ')) 15 [(0, ax_r (some 332)), (1, ax_i (nI o)), (2, ax_i (nI m)), (3, ax_i (nI h))] [] 0 0 μ)) (nHo a) (fun hg => ?_) (fun h hh ih' hg => ?_) 0 (Nat.zero_le _) (fun j hj => by omega)
    · refine sg218_15 l G _ 332 _ _ _ _ ?_
      try simp (disch := omega) only [hc.1.1.2.1.all, hc.1.1.2.2.1, hc.1.1.2.2.2.1.all, hc.1.1.2.2.2.all, hc.1.2, hc.2, wr_s, in_nI, clN, ti_z, ti_l, true_and, and_true, kI, zI, rI, kL, zL, rL, kR, zR, nnI, nnL, nnR, iL, iR, lI, lR, exi, exl, exv, eq_self, nI_add, nI_mul, nI_sub, nI_ltI, nI_leI, nI_eq, q0, q1, q2, q3, q4, q5, q6, q10, q100, br_Tr, br_Fa, iI_s, iI_n, bI_q0, bI_q1, or_true, true_or, not_true_eq_false, not_false_eq_true, nI_l, ge64, Nat.lt_irrefl, Nat.add_sub_cancel, Nat.not_lt_zero, lN_0, lN_1e4, lN_1e6, lN_1e3, lN_add, lN_mul, lN_ltI, lN_leI, lN_eqI, lN_i, lcE, lcLe, lcLt, lN_div, q7, q12, q20, q99, q200, q999, q1e4, if_true, if_false, Nat.le_refl]
      exact ih (lt_s hf (allN_t hg))
    · have hlv := liv_in a h m
      refine sg218_15 l G _ 332 _ _ _ _ ?_
      try simp (disch := omega) only [hc.1.1.2.1.all, hc.1.1.2.2.1, hc.1.1.2.2.2.1.all, hc.1.1.2.2.2.all, hc.1.2, hc.2, hh, wr_s, in_nI, clN, ti_z, ti_l, true_and, and_true, kI, zI, rI, kL, zL, rL, kR, zR, nnI, nnL, nnR, iL, iR, lI, lR, exi, exl, exv, eq_self, nI_add, nI_mul, nI_sub, nI_ltI, nI_leI, nI_eq, q0, q1, q2, q3, q4, q5, q6, q10, q100, br_Tr, br_Fa, iI_s, iI_n, bI_q0, bI_q1, or_true, true_or, not_true_eq_false, not_false_eq_true, nI_l, ge64, Nat.lt_irrefl, Nat.add_sub_cancel, Nat.not_lt_zero, lN_0, lN_1e4, lN_1e6, lN_1e3, lN_add, lN_mul, lN_ltI, lN_leI, lN_eqI, lN_i, lcE, lcLe, lcLt, lN_div, q7, q12, q20, q99, q200, q999, q1e4, if_true, if_false, Nat.le_refl]
      refine d204 hc ho hm ?_
      try simp (disch := omega) only [hc.1.1.2.1.all, hc.1.1.2.2.1, hc.1.1.2.2.2.1.all, hc.1.1.2.2.2.all, hc.1.2, hc.2, wr_s, in_nI, clN, ti_z, ti_l, true_and, and_true, kI, zI, rI, kL, zL, rL, kR, zR, nnI, nnL, nnR, iL, iR, lI, lR, exi, exl, exv, eq_self, nI_add, nI_mul, nI_sub, nI_ltI, nI_leI, nI_eq, q0, q1, q2, q3, q4, q5, q6, q10, q100, br_Tr, br_Fa, iI_s, iI_n, bI_q0, bI_q1, or_true, true_or, not_true_eq_false, not_false_eq_true, nI_l, ge64, Nat.lt_irrefl, Nat.add_sub_cancel, Nat.not_lt_zero, lN_0, lN_1e4, lN_1e6, lN_1e3, lN_add, lN_mul, lN_ltI, lN_leI, lN_eqI, lN_i, lcE, lcLe, lcLt, lN_div, q7, q12, q20, q99, q200, q999, q1e4, if_true, if_false, Nat.le_refl]
      refine d203 hc.1 hh hm ?_
      try simp (disch := omega) only [wr_s, in_nI, clN, ti_z, ti_l, true_and, and_true, kI, zI, rI, kL, zL, rL, kR, zR, nnI, nnL, nnR, iL, iR, lI, lR, exi, exl, exv, eq_self, nI_add, nI_mul, nI_sub, nI_ltI, nI_leI, nI_eq, q0, q1, q2, q3, q4, q5, q6, q10, q100, br_Tr, br_Fa, iI_s, iI_n, bI_q0, bI_q1, or_true, true_or, not_true_eq_false, not_false_eq_true, nI_l, ge64, Nat.lt_irrefl, Nat.add_sub_cancel, Nat.not_lt_zero, lN_0, lN_1e4, lN_1e6, lN_1e3, lN_add, lN_mul, lN_ltI, lN_leI, lN_eqI, lN_i, lcE, lcLe, lcLt, lN_div, q7, q12, q20, q99, q200, q999, q1e4, if_true, if_false, Nat.le_refl]
      refine ax_brc (fun h1 => ?_) (fun h1 => ih' (lt_s hg (by simp; omega)))
      have e : allN (fun h => decide (liv a h m ≤ num a o m)) (nHo a) = false := allN_f hh (by simp; omega)
      rw [allN_f (f := fun m => allN (fun h => decide (liv a h m ≤ num a o m)) (nHo a)) hm e, bI_z] at q
      exact q
theorem d224 {h o m : Nat} {K : Int32 → ax_M → Prop} (hc : MB μ N a) (hh : h < nHo a) (ho : o < nOf a) (hm : m < nMo a) (q : K (nI (pen a h o m)) μ) : ax_CI l G 224 [ax_r (some 332), ax_i (nI h), ax_i (nI o), ax_i (nI m)] μ K := by
  have hb := hc.bd
  have hp := (hc.1.1.1.hw hh).2.1
  have hn := num_in a o m
  have hpr : hP a h * num a o m ≤ 999 * 1000000 := Nat.mul_le_mul hp hn
  unfold pen at q
  refine ax_Ct.of (by decide) (Nat.le_of_ble_eq_true rfl) (sg224_0 l G _ 332 _ _ _ _ ?_)
  try simp (disch := omega) only [hc.1.1.2.1.all, hc.1.1.2.2.1, hc.1.1.2.2.2.1.all, hc.1.1.2.2.2.all, hc.1.2, hc.2, wr_s, in_nI, clN, ti_z, ti_l, true_and, and_true, kI, zI, rI, kL, zL, rL, kR, zR, nnI, nnL, nnR, iL, iR, lI, lR, exi, exl, exv, eq_self, nI_add, nI_mul, nI_sub, nI_ltI, nI_leI, nI_eq, q0, q1, q2, q3, q4, q5, q6, q10, q100, br_Tr, br_Fa, iI_s, iI_n, bI_q0, bI_q1, or_true, true_or, not_true_eq_false, not_false_eq_true, nI_l, ge64, Nat.lt_irrefl, Nat.add_sub_cancel, Nat.not_lt_zero, lN_0, lN_1e4, lN_1e6, lN_1e3, lN_add, lN_mul, lN_ltI, lN_leI, lN_eqI, lN_i, lcE, lcLe, lcLt, lN_div, q7, q12, q20, q99, q200, q999, q1e4, if_true, if_false, Nat.le_refl]
  refine d204 hc ho hm ?_
  try simp (disch := omega) only [hc.1.1.2.1.all, hc.1.1.2.2.1, hc.1.1.2.2.2.1.all, hc.1.1.2.2.2.all, hc.1.2, hc.2, wr_s, in_nI, clN, ti_z, ti_l, true_and, and_true, kI, zI, rI, kL, zL, rL, kR, zR, nnI, nnL, nnR, iL, iR, lI, lR, exi, exl, exv, eq_self, nI_add, nI_mul, nI_sub, nI_ltI, nI_leI, nI_eq, q0, q1, q2, q3, q4, q5, q6, q10, q100, br_Tr, br_Fa, iI_s, iI_n, bI_q0, bI_q1, or_true, true_or, not_true_eq_false, not_false_eq_true, nI_l, ge64, Nat.lt_irrefl, Nat.add_sub_cancel, Nat.not_lt_zero, lN_0, lN_1e4, lN_1e6, lN_1e3, lN_add, lN_mul, lN_ltI, lN_leI, lN_eqI, lN_i, lcE, lcLe, lcLt, lN_div, q7, q12, q20, q99, q200, q999, q1e4, if_true, if_false, Nat.le_refl]
  exact ⟨by omega, q⟩
theorem d115 {g m o x y : Nat} {K : Int32 → ax_M → Prop} (hc : MT μ N a) (hg : g < 2 ^ 31) (hm : m < nMo a) (ho : o ≤ 999) (hx : x ≤ 20) (hy : y ≤ 20) (q : K (bI (isW a g m o x y)) μ) : ax_CI l G 115 [ax_r (some 332), ax_i (nI g), ax_i (nI m), ax_i (nI o), ax_i (nI x), ax_i (nI y)] μ K := by
  have hb := hc.bd
  unfold isW at q
  refine ax_Ct.of (by decide) (Nat.le_of_ble_eq_true rfl) (sg115_0 l G _ 332 _ _ _ _ _ _ ?_)
  refine up_to (P := fun t => (∀ j, j < t → isW1 a g m o x y j = true) → (ax_Rw l G ax_h115 (ax_E G ax_h115 (fun x μ' => ∃ v : Int32, x = some (ax_i v) ∧ K v μ')) 3 [(0, ax_r (some 332)), (1, ax_i (nI g)), (2, ax_i (nI m)), (3, ax_i (nI o)), (4, ax_i (nI x)), (5, ax_i (nI y)), (6, ax_i (nI t))] [] 0 0 μ)) (nTh a) (fun hf => ?_) (fun t ht ih hf => ?_) 0 (Nat.zero_le _) (fun j hj => by omega)
  · refine sg115_3 l G _ 332 _ _ _ _ _ _ _ ?_
    try simp (disch := omega) only [hc.1.2.1.all, hc.1.2.2.1, hc.1.2.2.2.1.all, hc.1.2.2.2.all, hc.2, wr_s, in_nI, clN, ti_z, ti_l, true_and, and_true, kI, zI, rI, kL, zL, rL, kR, zR, nnI, nnL, nnR, iL, iR, lI, lR, exi, exl, exv, eq_self, nI_add, nI_mul, nI_sub, nI_ltI, nI_leI, nI_eq, q0, q1, q2, q3, q4, q5, q6, q10, q100, br_Tr, br_Fa, iI_s, iI_n, bI_q0, bI_q1, or_true, true_or, not_true_eq_false, not_false_eq_true, nI_l, ge64, Nat.lt_irrefl, Nat.add_sub_cancel, Nat.not_lt_zero, lN_0, lN_1e4, lN_1e6, lN_1e3, lN_add, lN_mul, lN_ltI, lN_leI, lN_eqI, lN_i, lcE, lcLe, lcLt, lN_div, q7, q12, q20, q99, q200, q999, q1e4, if_true, if_false, Nat.le_refl]
    rw [allN_t hf, bI_1] at q
    exact q
  · have hgt := hc.1.1.tg ht
    have hgs := gss_in (m := m) hc.1.1 ht hx hy
    obtain ⟨s1, s2, s3⟩ := stt_in hc.1.1 ht m
    have fail : isW1 a g m o x y t = false → K (nI 0) μ := fun e => by rw [allN_f ht e, bI_z] at q; exact q
    have goon : isW1 a g m o x y t = true → (ax_Rw l G ax_h115 (ax_E G ax_h115 (fun x μ' => ∃ v : Int32, x = some (ax_i v) ∧ K v μ')) 3 [(0, ax_r (some 332)), (1, ax_i (nI g)), (2, ax_i (nI m)), (3, ax_i (nI o)), (4, ax_i (nI x)), (5, ax_i (nI y)), (6, ax_i (nI (t + 1)))] [] 0 0 μ) := fun e => ih (lt_s hf e)
    unfold isW1 gss at fail goon
    refine sg115_3 l G _ 332 _ _ _ _ _ _ _ ?_
    try simp (disch := omega) only [hc.1.2.1.all, hc.1.2.2.1, hc.1.2.2.2.1.all, hc.1.2.2.2.all, hc.2, ht, wr_s, in_nI, clN, ti_z, ti_l, true_and, and_true, kI, zI, rI, kL, zL, rL, kR, zR, nnI, nnL, nnR, iL, iR, lI, lR, exi, exl, exv, eq_self, nI_add, nI_mul, nI_sub, nI_ltI, nI_leI, nI_eq, q0, q1, q2, q3, q4, q5, q6, q10, q100, br_Tr, br_Fa, iI_s, iI_n, bI_q0, bI_q1, or_true, true_or, not_true_eq_false, not_false_eq_true, nI_l, ge64, Nat.lt_irrefl, Nat.add_sub_cancel, Nat.not_lt_zero, lN_0, lN_1e4, lN_1e6, lN_1e3, lN_add, lN_mul, lN_ltI, lN_leI, lN_eqI, lN_i, lcE, lcLe, lcLt, lN_div, q7, q12, q20, q99, q200, q999, q1e4, if_true, if_false, Nat.le_refl]
    refine ax_brc (fun h1 => ?_) (fun h1 => goon (by simp [h1]))
    refine d50 ?_
    try simp (disch := omega) only [hc.1.2.1.all, hc.1.2.2.1, hc.1.2.2.2.1.all, hc.1.2.2.2.all, hc.2, wr_s, in_nI, clN, ti_z, ti_l, true_and, and_true, kI, zI, rI, kL, zL, rL, kR, zR, nnI, nnL, nnR, iL, iR, lI, lR, exi, exl, exv, eq_self, nI_add, nI_mul, nI_sub, nI_ltI, nI_leI, nI_eq, q0, q1, q2, q3, q4, q5, q6, q10, q100, br_Tr, br_Fa, iI_s, iI_n, bI_q0, bI_q1, or_true, true_or, not_true_eq_false, not_false_eq_true, nI_l, ge64, Nat.lt_irrefl, Nat.add_sub_cancel, Nat.not_lt_zero, lN_0, lN_1e4, lN_1e6, lN_1e3, lN_add, lN_mul, lN_ltI, lN_leI, lN_eqI, lN_i, lcE, lcLe, lcLt, lN_div, q7, q12, q20, q99, q200, q999, q1e4, if_true, if_false, Nat.le_refl]
    refine ax_brc (fun h2 => goon (by simp [h2])) (fun h2 => ?_)
    have h2 : Tr a t m = true := by simpa using h2
    refine d50 ?_
    try simp (disch := omega) only [hc.1.2.1.all, hc.1.2.2.1, hc.1.2.2.2.1.all, hc.1.2.2.2.all, hc.2, wr_s, in_nI, clN, ti_z, ti_l, true_and, and_true, kI, zI, rI, kL, zL, rL, kR, zR, nnI, nnL, nnR, iL, iR, lI, lR, exi, exl, exv, eq_self, nI_add, nI_mul, nI_sub, nI_ltI, nI_leI, nI_eq, q0, q1, q2, q3, q4, q5, q6, q10, q100, br_Tr, br_Fa, iI_s, iI_n, bI_q0, bI_q1, or_true, true_or, not_true_eq_false, not_false_eq_true, nI_l, ge64, Nat.lt_irrefl, Nat.add_sub_cancel, Nat.not_lt_zero, lN_0, lN_1e4, lN_1e6, lN_1e3, lN_add, lN_mul, lN_ltI, lN_leI, lN_eqI, lN_i, lcE, lcLe, lcLt, lN_div, q7, q12, q20, q99, q200, q999, q1e4, if_true, if_false, Nat.le_refl]
    refine d50 ?_
    try simp (disch := omega) only [hc.1.2.1.all, hc.1.2.2.1, hc.1.2.2.2.1.all, hc.1.2.2.2.all, hc.2, wr_s, in_nI, clN, ti_z, ti_l, true_and, and_true, kI, zI, rI, kL, zL, rL, kR, zR, nnI, nnL, nnR, iL, iR, lI, lR, exi, exl, exv, eq_self, nI_add, nI_mul, nI_sub, nI_ltI, nI_leI, nI_eq, q0, q1, q2, q3, q4, q5, q6, q10, q100, br_Tr, br_Fa, iI_s, iI_n, bI_q0, bI_q1, or_true, true_or, not_true_eq_false, not_false_eq_true, nI_l, ge64, Nat.lt_irrefl, Nat.add_sub_cancel, Nat.not_lt_zero, lN_0, lN_1e4, lN_1e6, lN_1e3, lN_add, lN_mul, lN_ltI, lN_leI, lN_eqI, lN_i, lcE, lcLe, lcLt, lN_div, q7, q12, q20, q99, q200, q999, q1e4, if_true, if_false, Nat.le_refl]
    refine d50 ?_
    try simp (disch := omega) only [hc.1.2.1.all, hc.1.2.2.1, hc.1.2.2.2.1.all, hc.1.2.2.2.all, hc.2, nI_div, wr_s, in_nI, clN, ti_z, ti_l, true_and, and_true, kI, zI, rI, kL, zL, rL, kR, zR, nnI, nnL, nnR, iL, iR, lI, lR, exi, exl, exv, eq_self, nI_add, nI_mul, nI_ltI, nI_leI, nI_eq, q0, q1, q2, q3, q4, q5, q6, q10, q100, br_Tr, br_Fa, iI_s, iI_n, bI_q0, bI_q1, or_true, true_or, not_true_eq_false, not_false_eq_true, nI_l, ge64, Nat.lt_irrefl, Nat.add_sub_cancel, Nat.not_lt_zero, lN_0, lN_1e4, lN_1e6, lN_1e3, lN_add, lN_mul, lN_ltI, lN_leI, lN_eqI, lN_i, lcE, lcLe, lcLt, lN_div, q7, q12, q20, q99, q200, q999, q1e4, if_true, if_false, Nat.le_refl]
    refine ⟨by decide, ?_⟩
    rw [sub_leN (by omega) (by omega) (by omega), neg_leN (by omega) (by omega) (by omega)]
    refine ax_brc (fun h3 => ?_) (fun h3 => fail (by simp [h1, h2, h3]))
    refine ax_brc (fun h4 => goon (by simp [h3, h4])) (fun h4 => fail (by simp [h1, h2, h4]))
theorem d112 {h m : Nat} {K : Int32 → ax_M → Prop} (hc : MB μ N a) (hh : h < nHo a) (hm : m + 1 < nMo a) (q : K (bI (isLd a h (m + 1))) μ) : ax_CI l G 112 [ax_r (some 332), ax_i (nI h), ax_i (nI (m + 1))] μ K := by
  have hb := hc.bd
  have ha := hc.1.1.1
  unfold isLd at q
  rw [Nat.add_sub_cancel] at q
  refine ax_Ct.of (by decide) (Nat.le_of_ble_eq_true rfl) (sg112_0 l G _ 332 _ _ _ ?_)
  refine up_to (P := fun g => (∀ j, j < g → decide (¬ (buy a h j (m + 1)).1 = (buy a h j m).1) = false) → (ax_Rw l G ax_h112 (ax_E G ax_h112 (fun x μ' => ∃ v : Int32, x = some (ax_i v) ∧ K v μ')) 2 [(0, ax_r (some 332)), (1, ax_i (nI h)), (2, ax_i (nI (m + 1))), (3, ax_i (nI g))] [] 0 0 μ)) (nGr a) (fun hf => ?_) (fun g hg ih hf => ?_) 0 (Nat.zero_le _) (fun j hj => by omega)
  · refine sg112_2 l G _ 332 _ _ _ _ ?_
    try simp (disch := omega) only [hc.1.1.2.1.all, hc.1.1.2.2.1, hc.1.1.2.2.2.1.all, hc.1.1.2.2.2.all, hc.1.2, hc.2, wr_s, in_nI, clN, ti_z, ti_l, true_and, and_true, kI, zI, rI, kL, zL, rL, kR, zR, nnI, nnL, nnR, iL, iR, lI, lR, exi, exl, exv, eq_self, nI_add, nI_mul, nI_sub, nI_ltI, nI_leI, nI_eq, q0, q1, q2, q3, q4, q5, q6, q10, q100, br_Tr, br_Fa, iI_s, iI_n, bI_q0, bI_q1, or_true, true_or, not_true_eq_false, not_false_eq_true, nI_l, ge64, Nat.lt_irrefl, Nat.add_sub_cancel, Nat.not_lt_zero, lN_0, lN_1e4, lN_1e6, lN_1e3, lN_add, lN_mul, lN_ltI, lN_leI, lN_eqI, lN_i, lcE, lcLe, lcLt, lN_div, q7, q12, q20, q99, q200, q999, q1e4, if_true, if_false, Nat.le_refl]
    rw [anyN_f hf, bI_z] at q
    exact q
  · have b1 := (buy_in ha hh (show g < 4 by omega) (m + 1)).1
    have b0 := (buy_in ha hh (show g < 4 by omega) m).1
    refine sg112_2 l G _ 332 _ _ _ _ ?_
    try simp (disch := omega) only [hc.1.1.2.1.all, hc.1.1.2.2.1, hc.1.1.2.2.2.1.all, hc.1.1.2.2.2.all, hc.1.2, hc.2, hg, wr_s, in_nI, clN, ti_z, ti_l, true_and, and_true, kI, zI, rI, kL, zL, rL, kR, zR, nnI, nnL, nnR, iL, iR, lI, lR, exi, exl, exv, eq_self, nI_add, nI_mul, nI_sub, nI_ltI, nI_leI, nI_eq, q0, q1, q2, q3, q4, q5, q6, q10, q100, br_Tr, br_Fa, iI_s, iI_n, bI_q0, bI_q1, or_true, true_or, not_true_eq_false, not_false_eq_true, nI_l, ge64, Nat.lt_irrefl, Nat.add_sub_cancel, Nat.not_lt_zero, lN_0, lN_1e4, lN_1e6, lN_1e3, lN_add, lN_mul, lN_ltI, lN_leI, lN_eqI, lN_i, lcE, lcLe, lcLt, lN_div, q7, q12, q20, q99, q200, q999, q1e4, if_true, if_false, Nat.le_refl]
    refine d65 hc.1.1 hh hg ?_
    try simp (disch := omega) only [hc.1.1.2.1.all, hc.1.1.2.2.1, hc.1.1.2.2.2.1.all, hc.1.1.2.2.2.all, hc.1.2, hc.2, wr_s, in_nI, clN, ti_z, ti_l, true_and, and_true, kI, zI, rI, kL, zL, rL, kR, zR, nnI, nnL, nnR, iL, iR, lI, lR, exi, exl, exv, eq_self, nI_add, nI_mul, nI_sub, nI_ltI, nI_leI, nI_eq, q0, q1, q2, q3, q4, q5, q6, q10, q100, br_Tr, br_Fa, iI_s, iI_n, bI_q0, bI_q1, or_true, true_or, not_true_eq_false, not_false_eq_true, nI_l, ge64, Nat.lt_irrefl, Nat.add_sub_cancel, Nat.not_lt_zero, lN_0, lN_1e4, lN_1e6, lN_1e3, lN_add, lN_mul, lN_ltI, lN_leI, lN_eqI, lN_i, lcE, lcLe, lcLt, lN_div, q7, q12, q20, q99, q200, q999, q1e4, if_true, if_false, Nat.le_refl]
    refine ax_brc (fun h1 => ?_) (fun h1 => ?_)
    · have h2 : hW a h g = 0 := by have := of_decide_eq_false h1; omega
      exact ih (lt_s hf (by rw [buy_w0 h2, buy_w0 h2]; simp))
    · have h2 : 0 < hW a h g := Nat.pos_of_ne_zero (by simpa using h1)
      refine d72 ?_
      try simp (disch := omega) only [nI_sub1, hc.1.1.2.1.all, hc.1.1.2.2.1, hc.1.1.2.2.2.1.all, hc.1.1.2.2.2.all, hc.1.2, hc.2, wr_s, in_nI, clN, ti_z, ti_l, true_and, and_true, kI, zI, rI, kL, zL, rL, kR, zR, nnI, nnL, nnR, iL, iR, lI, lR, exi, exl, exv, eq_self, nI_add, nI_mul, nI_ltI, nI_leI, nI_eq, q0, q1, q2, q3, q4, q5, q6, q10, q100, br_Tr, br_Fa, iI_s, iI_n, bI_q0, bI_q1, or_true, true_or, not_true_eq_false, not_false_eq_true, nI_l, ge64, Nat.lt_irrefl, Nat.add_sub_cancel, Nat.not_lt_zero, lN_0, lN_1e4, lN_1e6, lN_1e3, lN_add, lN_mul, lN_ltI, lN_leI, lN_eqI, lN_i, lcE, lcLe, lcLt, lN_div, q7, q12, q20, q99, q200, q999, q1e4, if_true, if_false, Nat.le_refl]
      refine d72 ?_
      try simp (disch := omega) only [hc.1.1.2.1.all, hc.1.1.2.2.1, hc.1.1.2.2.2.1.all, hc.1.1.2.2.2.all, hc.1.2, hc.2, wr_s, in_nI, clN, ti_z, ti_l, true_and, and_true, kI, zI, rI, kL, zL, rL, kR, zR, nnI, nnL, nnR, iL, iR, lI, lR, exi, exl, exv, eq_self, nI_add, nI_mul, nI_sub, nI_ltI, nI_leI, nI_eq, q0, q1, q2, q3, q4, q5, q6, q10, q100, br_Tr, br_Fa, iI_s, iI_n, bI_q0, bI_q1, or_true, true_or, not_true_eq_false, not_false_eq_true, nI_l, ge64, Nat.lt_irrefl, Nat.add_sub_cancel, Nat.not_lt_zero, lN_0, lN_1e4, lN_1e6, lN_1e3, lN_add, lN_mul, lN_ltI, lN_leI, lN_eqI, lN_i, lcE, lcLe, lcLt, lN_div, q7, q12, q20, q99, q200, q999, q1e4, if_true, if_false, Nat.le_refl]
      have ee : (enc (buy a h g (m + 1)).1 = enc (buy a h g m).1) = ((buy a h g (m + 1)).1 = (buy a h g m).1) := by
        cases h3 : (buy a h g m).1 with
        | none =>
          rw [enc_none]
          cases h4 : (buy a h g (m + 1)).1 with
          | none => simp [enc_none]
          | some t => exact propext ⟨fun e => absurd e.symm (neg2_ne (by have := b1 t h4; omega)), fun e => by cases e⟩
        | some t => exact enc_eq (fun t' e => by have := b1 t' e; omega) (by have := b0 t h3; omega)
      rw [ee]
      refine ax_brc (fun h3 => ih (lt_s hf (by simp [h3]))) (fun h3 => ?_)
      rw [anyN_t hg (by simp [h3]), bI_1] at q
      exact q
end F4
