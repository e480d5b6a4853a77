/-! the model: counts, sums, numbers -/
theorem nI_dn (m : Nat) : nI (m + 1) + -nI 1 = nI m := by
  rw [← Int32.sub_eq_add_neg]; exact nI_sub1 m
theorem buy_w0 {a : Ld} {h g : Nat} (h0 : hW a h g = 0) : ∀ m, buy a h g m = (none, 0)
  | 0 => by unfold buy anew; rw [if_pos h0]
  | m + 1 => by unfold buy; rw [buy_w0 h0 m]; show anew a h g (m + 1) = _; unfold anew; rw [if_pos h0]
def pcG (a : Ld) (h t m g : Nat) : Nat := if (buy a h g m).1 = some t then (buy a h g m).2 else 0
theorem sumN_one {f : Nat → Nat} {c v : Nat} (hv : f c = v) (h0 : ∀ k, k ≠ c → f k = 0) : ∀ n, sumN f n = if c < n then v else 0
  | 0 => rfl
  | n + 1 => by
    unfold sumN
    rw [sumN_one hv h0 n]
    rcases Nat.lt_trichotomy c n with h | h | h
    · rw [if_pos h, if_pos (by omega), h0 n (by omega)]; rfl
    · subst h; rw [if_neg (by omega), if_pos (by omega), hv, Nat.zero_add]
    · rw [if_neg (by omega), if_neg (by omega), h0 n (by omega)]
theorem sumN_z {f : Nat → Nat} : ∀ {n : Nat}, (∀ k, k < n → f k = 0) → sumN f n = 0
  | 0, _ => rfl
  | n + 1, h => by unfold sumN; rw [sumN_z (fun k hk => h k (by omega)), h n (by omega)]
theorem pcG_sum {a : Ld} (ha : LdOk a) {h t m : Nat} (hh : h < nHo a) (ht : t < nTh a) : sumN (pcG a h t m) (nGr a) = pcO a h t m := by
  have hg := ha.tg ht
  have hb := ha.bd
  have e : sumN (pcG a h t m) (nGr a) = sumN (fun g => if g = tG a t then pcO a h t m else 0) (nGr a) := by
    refine sumN_cong (fun g hg' => ?_)
    unfold pcG
    by_cases h1 : (buy a h g m).1 = some t
    · have h2 := ((buy_in ha hh (show g < 4 by omega) m).1 t h1).2.1
      rw [if_pos h1, if_pos h2.symm]
      unfold pcO
      rw [h2, if_pos h1]
    · rw [if_neg h1]
      by_cases h3 : g = tG a t
      · rw [if_pos h3]; unfold pcO; rw [← h3, if_neg h1]
      · rw [if_neg h3]
  rw [e, sumN_one (f := fun g => if g = tG a t then pcO a h t m else 0) (c := tG a t) (v := pcO a h t m) (if_pos rfl) (fun k hk => if_neg hk), if_pos hg]
theorem sumN_pos {f : Nat → Nat} : ∀ {n : Nat}, sumN f n ≠ 0 → ∃ k, k < n ∧ f k ≠ 0
  | 0, h => absurd rfl h
  | n + 1, h => by
    by_cases h1 : f n = 0
    · unfold sumN at h
      obtain ⟨k, hk, h2⟩ := sumN_pos (f := f) (n := n) (by omega)
      exact ⟨k, by omega, h2⟩
    · exact ⟨n, by omega, h1⟩
theorem allP_tr {a : Ld} (ha : LdOk a) {t m : Nat} (ht : t < nTh a) (h : allP a t m ≠ 0) : Tr a t m = true := by
  have hg := ha.tg ht
  have hb := ha.bd
  obtain ⟨k, hk, h2⟩ := sumN_pos h
  simp only [pcO] at h2
  split at h2
  · rename_i h3
    exact ((buy_in ha hk (by omega) m).1 t h3).2.2
  · exact absurd rfl h2
theorem pTh_own {a : Ld} (ha : LdOk a) {o t m : Nat} (ht : t < nTh a) : pTh a o m m t = cnt a o t m * seP a o t m := by
  unfold pTh
  by_cases h0 : cnt a o t m = 0
  · rw [if_pos (Or.inl h0), h0, Nat.zero_mul]
  · have hT : Tr a t m = true := allP_tr ha ht (fun e => h0 (by unfold cnt; rw [e]; split <;> simp))
    have h1 : lft a o t m = false := by unfold lft; rw [hT]; simp
    have h2 : sIn1 a o t m = t := by unfold sIn1; rw [if_pos (Or.inl hT)]
    rw [if_neg (by rw [h1]; simpa using h0), h2, if_pos rfl, lst_tr hT]
theorem neg_dif {x y : Nat} (hx : x < 2 ^ 31) (hy : y < 2 ^ 31) (h : nI x - nI y < nI 0) : -(nI x - nI y) = nI (dif x y) := by
  rw [Int32.lt_iff_toInt_lt, nI_subI hx hy, nI_toInt (by omega)] at h
  have e := nI_subI hy hx
  rw [Int32.neg_sub, nI_sub (by omega)]
  unfold dif
  rw [show x - y = 0 by omega, Nat.zero_add]
theorem pos_dif {x y : Nat} (hx : x < 2 ^ 31) (hy : y < 2 ^ 31) (h : ¬ nI x - nI y < nI 0) : nI x - nI y = nI (dif x y) := by
  rw [Int32.lt_iff_toInt_lt, nI_subI hx hy, nI_toInt (by omega)] at h
  rw [nI_sub (by omega)]
  unfold dif
  rw [show y - x = 0 by omega, Nat.add_zero]
theorem bit0_ok : ∀ s, s < 256 → ∀ t, t < 8 → (((nI s >>> (nI t &&& 31)) &&& nI 1 = nI 0) ↔ s.testBit t = false) := by decide +kernel
section F3
variable {l : Launch} {G : ax_G} {μ : ax_M} {N : Nat} {a : Ld}
theorem d65 {h g : Nat} {K : Int32 → ax_M → Prop} (hc : MW μ N a) (hh : h < nHo a) (hg : g < nGr a) (q : K (bI (decide (0 < hW a h g))) μ) : ax_CI l G 65 [ax_r (some 332), ax_i (nI h), ax_i (nI g)] μ K := by
  have hb := hc.bd
  have hw := (hc.1.hw hh).2.2 g (by omega)
  refine ax_Ct.of (by decide) (Nat.le_of_ble_eq_true rfl) (sg65_0 l G _ 332 _ _ _ ?_)
  try simp (disch := omega) only [hc.2.1.all, hc.2.2.1, hc.2.2.2.1.all, hc.2.2.2.all, wr_s, in_nI, clN, ti_z, ti_l, true_and, and_true, kI, zI, rI, kL, zL, rL, kR, zR, nnI, nnL, nnR, iL, iR, lI, lR, exi, exl, exv, eq_self, nI_add, nI_mul, nI_sub, nI_ltI, nI_leI, nI_eq, q0, q1, q2, q3, q4, q5, q6, q10, q100, br_Tr, br_Fa, iI_s, iI_n, bI_q0, bI_q1, or_true, true_or, not_true_eq_false, not_false_eq_true, nI_l, ge64, Nat.lt_irrefl, Nat.add_sub_cancel, Nat.not_lt_zero, lN_0, lN_1e4, lN_1e6, lN_1e3, lN_add, lN_mul, lN_ltI, lN_leI, lN_eqI, lN_i, lcE, lcLe, lcLt, lN_div, q7, q12, q20, q99, q200, q999, q1e4, if_true, if_false, Nat.le_refl]
  refine ax_brc (fun h1 => ?_) (fun h1 => ?_)
  · rw [decide_eq_false (by omega)] at q; exact q
  · rw [decide_eq_true (by omega)] at q; exact q
theorem d113 {t m : Nat} {K : Int32 → ax_M → Prop} (hc : MT μ N a) (ht : t < nTh a) (hm : m < nMo a) (q : K (nI (lst a t m)) μ) : ax_CI l G 113 [ax_r (some 332), ax_i (nI t), ax_i (nI m)] μ K := by
  have hb := hc.bd
  have loop : ∀ j, j < nMo a → lst a t j = lst a t m → (ax_Rw l G ax_h113 (ax_E G ax_h113 (fun x μ' => ∃ v : Int32, x = some (ax_i v) ∧ K v μ')) 2 [(0, ax_r (some 332)), (1, ax_i (nI t)), (3, ax_i (nI j))] [] 0 0 μ) := by
    intro j
    induction j with
    | zero =>
      intro _ e
      refine sg113_2 l G _ 332 _ _ _ ?_
      try simp (disch := omega) only [wr_s, in_nI, clN, ti_z, ti_l, true_and, and_true, kI, zI, rI, kL, zL, rL, kR, zR, nnI, nnL, nnR, iL, iR, lI, lR, exi, exl, exv, eq_self, nI_add, nI_mul, nI_sub, nI_ltI, nI_leI, nI_eq, q0, q1, q2, q3, q4, q5, q6, q10, q100, br_Tr, br_Fa, iI_s, iI_n, bI_q0, bI_q1, or_true, true_or, not_true_eq_false, not_false_eq_true, nI_l, ge64, Nat.lt_irrefl, Nat.add_sub_cancel, Nat.not_lt_zero, lN_0, lN_1e4, lN_1e6, lN_1e3, lN_add, lN_mul, lN_ltI, lN_leI, lN_eqI, lN_i, lcE, lcLe, lcLt, lN_div, q7, q12, q20, q99, q200, q999, q1e4, if_true, if_false, Nat.le_refl]
      rw [← e] at q
      exact q
    | succ j ih =>
      intro hj e
      refine sg113_2 l G _ 332 _ _ _ ?_
      try simp (disch := omega) only [hc.1.2.1.all, hc.1.2.2.1, hc.1.2.2.2.1.all, hc.1.2.2.2.all, hc.2, show ¬ (j + 1 ≤ 0) by omega, wr_s, in_nI, clN, ti_z, ti_l, true_and, and_true, kI, zI, rI, kL, zL, rL, kR, zR, nnI, nnL, nnR, iL, iR, lI, lR, exi, exl, exv, eq_self, nI_add, nI_mul, nI_sub, nI_ltI, nI_leI, nI_eq, q0, q1, q2, q3, q4, q5, q6, q10, q100, br_Tr, br_Fa, iI_s, iI_n, bI_q0, bI_q1, or_true, true_or, not_true_eq_false, not_false_eq_true, nI_l, ge64, Nat.lt_irrefl, Nat.add_sub_cancel, Nat.not_lt_zero, lN_0, lN_1e4, lN_1e6, lN_1e3, lN_add, lN_mul, lN_ltI, lN_leI, lN_eqI, lN_i, lcE, lcLe, lcLt, lN_div, q7, q12, q20, q99, q200, q999, q1e4, if_true, if_false, Nat.le_refl]
      refine d50 ?_
      try simp (disch := omega) only [hc.1.2.1.all, hc.1.2.2.1, hc.1.2.2.2.1.all, hc.1.2.2.2.all, hc.2, nI_dn, wr_s, in_nI, clN, ti_z, ti_l, true_and, and_true, kI, zI, rI, kL, zL, rL, kR, zR, nnI, nnL, nnR, iL, iR, lI, lR, exi, exl, exv, eq_self, nI_add, nI_mul, nI_sub, nI_ltI, nI_leI, nI_eq, q0, q1, q2, q3, q4, q5, q6, q10, q100, br_Tr, br_Fa, iI_s, iI_n, bI_q0, bI_q1, or_true, true_or, not_true_eq_false, not_false_eq_true, nI_l, ge64, Nat.lt_irrefl, Nat.add_sub_cancel, Nat.not_lt_zero, lN_0, lN_1e4, lN_1e6, lN_1e3, lN_add, lN_mul, lN_ltI, lN_leI, lN_eqI, lN_i, lcE, lcLe, lcLt, lN_div, q7, q12, q20, q99, q200, q999, q1e4, if_true, if_false, Nat.le_refl]
      refine ax_brc (fun h1 => ?_) (fun h1 => ?_)
      · refine ih (by omega) ?_
        rw [← e]
        show _ = (if Tr a t (j + 1) = true then j + 1 else lst a t j)
        rw [h1, if_neg Bool.false_ne_true]
      · rw [← e, lst_tr (by simpa using h1)] at q
        exact q
  refine ax_Ct.of (by decide) (Nat.le_of_ble_eq_true rfl) (sg113_0 l G _ 332 _ _ _ ?_)
  exact loop m hm rfl
theorem d119 {o t m : Nat} {K : Int64 → ax_M → Prop} (hc : MT μ N a) (ho : o < nOf a) (ht : t < nTh a) (hm : m < nMo a) (q : K (lN (seP a o t m)) μ) : ax_CL l G 119 [ax_r (some 332), ax_i (nI o), ax_i (nI t), ax_i (nI m)] μ K := by
  have hb := hc.bd
  obtain ⟨s1, s2, s3⟩ := stt_in hc.1.1 ht m
  unfold seP at q
  refine ax_Ct.of (by decide) (Nat.le_of_ble_eq_true rfl) (sg119_0 l G _ 332 _ _ _ _ ?_)
  try simp (disch := omega) only [hc.1.2.1.all, hc.1.2.2.1, hc.1.2.2.2.1.all, hc.1.2.2.2.all, hc.2, wr_s, in_nI, clN, ti_z, ti_l, true_and, and_true, kI, zI, rI, kL, zL, rL, kR, zR, nnI, nnL, nnR, iL, iR, lI, lR, exi, exl, exv, eq_self, nI_add, nI_mul, nI_sub, nI_ltI, nI_leI, nI_eq, q0, q1, q2, q3, q4, q5, q6, q10, q100, br_Tr, br_Fa, iI_s, iI_n, bI_q0, bI_q1, or_true, true_or, not_true_eq_false, not_false_eq_true, nI_l, ge64, Nat.lt_irrefl, Nat.add_sub_cancel, Nat.not_lt_zero, lN_0, lN_1e4, lN_1e6, lN_1e3, lN_add, lN_mul, lN_ltI, lN_leI, lN_eqI, lN_i, lcE, lcLe, lcLt, lN_div, q7, q12, q20, q99, q200, q999, q1e4, if_true, if_false, Nat.le_refl]
  refine ax_brc (fun h1 => ?_) (fun h1 => ?_)
  · rw [if_neg (by simpa using h1)] at q
    refine d50 ?_
    try simp (disch := omega) only [hc.1.2.1.all, hc.1.2.2.1, hc.1.2.2.2.1.all, hc.1.2.2.2.all, hc.2, wr_s, in_nI, clN, ti_z, ti_l, true_and, and_true, kI, zI, rI, kL, zL, rL, kR, zR, nnI, nnL, nnR, iL, iR, lI, lR, exi, exl, exv, eq_self, nI_add, nI_mul, nI_sub, nI_ltI, nI_leI, nI_eq, q0, q1, q2, q3, q4, q5, q6, q10, q100, br_Tr, br_Fa, iI_s, iI_n, bI_q0, bI_q1, or_true, true_or, not_true_eq_false, not_false_eq_true, nI_l, ge64, Nat.lt_irrefl, Nat.add_sub_cancel, Nat.not_lt_zero, lN_0, lN_1e4, lN_1e6, lN_1e3, lN_add, lN_mul, lN_ltI, lN_leI, lN_eqI, lN_i, lcE, lcLe, lcLt, lN_div, q7, q12, q20, q99, q200, q999, q1e4, if_true, if_false, Nat.le_refl]
    exact q
  · rw [if_pos (by simpa using h1)] at q
    refine d50 ?_
    try simp (disch := omega) only [hc.1.2.1.all, hc.1.2.2.1, hc.1.2.2.2.1.all, hc.1.2.2.2.all, hc.2, wr_s, in_nI, clN, ti_z, ti_l, true_and, and_true, kI, zI, rI, kL, zL, rL, kR, zR, nnI, nnL, nnR, iL, iR, lI, lR, exi, exl, exv, eq_self, nI_add, nI_mul, nI_sub, nI_ltI, nI_leI, nI_eq, q0, q1, q2, q3, q4, q5, q6, q10, q100, br_Tr, br_Fa, iI_s, iI_n, bI_q0, bI_q1, or_true, true_or, not_true_eq_false, not_false_eq_true, nI_l, ge64, Nat.lt_irrefl, Nat.add_sub_cancel, Nat.not_lt_zero, lN_0, lN_1e4, lN_1e6, lN_1e3, lN_add, lN_mul, lN_ltI, lN_leI, lN_eqI, lN_i, lcE, lcLe, lcLt, lN_div, q7, q12, q20, q99, q200, q999, q1e4, if_true, if_false, Nat.le_refl]
    refine d50 ?_
    try simp (disch := omega) only [hc.1.2.1.all, hc.1.2.2.1, hc.1.2.2.2.1.all, hc.1.2.2.2.all, hc.2, wr_s, in_nI, clN, ti_z, ti_l, true_and, and_true, kI, zI, rI, kL, zL, rL, kR, zR, nnI, nnL, nnR, iL, iR, lI, lR, exi, exl, exv, eq_self, nI_add, nI_mul, nI_sub, nI_ltI, nI_leI, nI_eq, q0, q1, q2, q3, q4, q5, q6, q10, q100, br_Tr, br_Fa, iI_s, iI_n, bI_q0, bI_q1, or_true, true_or, not_true_eq_false, not_false_eq_true, nI_l, ge64, Nat.lt_irrefl, Nat.add_sub_cancel, Nat.not_lt_zero, lN_0, lN_1e4, lN_1e6, lN_1e3, lN_add, lN_mul, lN_ltI, lN_leI, lN_eqI, lN_i, lcE, lcLe, lcLt, lN_div, q7, q12, q20, q99, q200, q999, q1e4, if_true, if_false, Nat.le_refl]
    exact ⟨by omega, q⟩
theorem d108 {o t m : Nat} {K : Int64 → ax_M → Prop} (hc : MB μ N a) (ho : o < nOf a) (ht : t < nTh a) (hm : m < nMo a) (q : K (lN (cnt a o t m)) μ) : ax_CL l G 108 [ax_r (some 332), ax_i (nI o), ax_i (nI t), ax_i (nI m)] μ K := by
  have hb := hc.bd
  have ha := hc.1.1.1
  refine ax_Ct.of (by decide) (Nat.le_of_ble_eq_true rfl) (sg108_0 l G _ 332 _ _ _ _ ?_)
  try simp (disch := omega) only [wr_s, in_nI, clN, ti_z, ti_l, true_and, and_true, kI, zI, rI, kL, zL, rL, kR, zR, nnI, nnL, nnR, iL, iR, lI, lR, exi, exl, exv, eq_self, nI_add, nI_mul, nI_sub, nI_ltI, nI_leI, nI_eq, q0, q1, q2, q3, q4, q5, q6, q10, q100, br_Tr, br_Fa, iI_s, iI_n, bI_q0, bI_q1, or_true, true_or, not_true_eq_false, not_false_eq_true, nI_l, ge64, Nat.lt_irrefl, Nat.add_sub_cancel, Nat.not_lt_zero, lN_0, lN_1e4, lN_1e6, lN_1e3, lN_add, lN_mul, lN_ltI, lN_leI, lN_eqI, lN_i, lcE, lcLe, lcLt, lN_div, q7, q12, q20, q99, q200, q999, q1e4, if_true, if_false, Nat.le_refl]
  refine up_to (P := fun h => (ax_Rw l G ax_h108 (ax_E G ax_h108 (fun x μ' => ∃ v : Int64, x = some (ax_l v) ∧ K v μ')) 6 [(0, ax_r (some 332)), (1, ax_i (nI o)), (2, ax_i (nI t)), (3, ax_i (nI m)), (4, ax_l (lN (sumN (fun h => pcO a h t m) h))), (6, ax_i (nI h))] [] 0 0 μ)) (nHo a) ?_ (fun h hh ih => ?_) 0 (Nat.zero_le _)
  · refine sg108_6 l G _ 332 _ _ _ _ _ _ ?_
    try simp (disch := omega) only [hc.1.1.2.1.all, hc.1.1.2.2.1, hc.1.1.2.2.2.1.all, hc.1.1.2.2.2.all, hc.1.2, hc.2, wr_s, in_nI, clN, ti_z, ti_l, true_and, and_true, kI, zI, rI, kL, zL, rL, kR, zR, nnI, nnL, nnR, iL, iR, lI, lR, exi, exl, exv, eq_self, nI_add, nI_mul, nI_sub, nI_ltI, nI_leI, nI_eq, q0, q1, q2, q3, q4, q5, q6, q10, q100, br_Tr, br_Fa, iI_s, iI_n, bI_q0, bI_q1, or_true, true_or, not_true_eq_false, not_false_eq_true, nI_l, ge64, Nat.lt_irrefl, Nat.add_sub_cancel, Nat.not_lt_zero, lN_0, lN_1e4, lN_1e6, lN_1e3, lN_add, lN_mul, lN_ltI, lN_leI, lN_eqI, lN_i, lcE, lcLe, lcLt, lN_div, q7, q12, q20, q99, q200, q999, q1e4, if_true, if_false, Nat.le_refl]
    unfold cnt allP at q
    have hsz := (stt_in ha ht m).1
    refine ax_brc (fun h1 => ?_) (fun h1 => ?_)
    · rw [if_neg (by simpa using h1)] at q
      exact q
    · rw [if_pos (by simpa using h1)] at q
      refine d50 ?_
      try simp (disch := omega) only [hc.1.1.2.1.all, hc.1.1.2.2.1, hc.1.1.2.2.2.1.all, hc.1.1.2.2.2.all, hc.1.2, hc.2, wr_s, in_nI, clN, ti_z, ti_l, true_and, and_true, kI, zI, rI, kL, zL, rL, kR, zR, nnI, nnL, nnR, iL, iR, lI, lR, exi, exl, exv, eq_self, nI_add, nI_mul, nI_sub, nI_ltI, nI_leI, nI_eq, q0, q1, q2, q3, q4, q5, q6, q10, q100, br_Tr, br_Fa, iI_s, iI_n, bI_q0, bI_q1, or_true, true_or, not_true_eq_false, not_false_eq_true, nI_l, ge64, Nat.lt_irrefl, Nat.add_sub_cancel, Nat.not_lt_zero, lN_0, lN_1e4, lN_1e6, lN_1e3, lN_add, lN_mul, lN_ltI, lN_leI, lN_eqI, lN_i, lcE, lcLe, lcLt, lN_div, q7, q12, q20, q99, q200, q999, q1e4, if_true, if_false, Nat.le_refl]
      exact q
  · refine sg108_6 l G _ 332 _ _ _ _ _ _ ?_
    try simp (disch := omega) only [hc.1.1.2.1.all, hc.1.1.2.2.1, hc.1.1.2.2.2.1.all, hc.1.1.2.2.2.all, hc.1.2, hc.2, hh, wr_s, in_nI, clN, ti_z, ti_l, true_and, and_true, kI, zI, rI, kL, zL, rL, kR, zR, nnI, nnL, nnR, iL, iR, lI, lR, exi, exl, exv, eq_self, nI_add, nI_mul, nI_sub, nI_ltI, nI_leI, nI_eq, q0, q1, q2, q3, q4, q5, q6, q10, q100, br_Tr, br_Fa, iI_s, iI_n, bI_q0, bI_q1, or_true, true_or, not_true_eq_false, not_false_eq_true, nI_l, ge64, Nat.lt_irrefl, Nat.add_sub_cancel, Nat.not_lt_zero, lN_0, lN_1e4, lN_1e6, lN_1e3, lN_add, lN_mul, lN_ltI, lN_leI, lN_eqI, lN_i, lcE, lcLe, lcLt, lN_div, q7, q12, q20, q99, q200, q999, q1e4, if_true, if_false, Nat.le_refl]
    refine up_to (P := fun g => (ax_Rw l G ax_h108 (ax_E G ax_h108 (fun x μ' => ∃ v : Int64, x = some (ax_l v) ∧ K v μ')) 21 [(0, ax_r (some 332)), (1, ax_i (nI o)), (2, ax_i (nI t)), (3, ax_i (nI m)), (4, ax_l (lN (sumN (fun h => pcO a h t m) h + sumN (pcG a h t m) g))), (6, ax_i (nI h)), (7, ax_i (nI g))] [] 0 0 μ)) (nGr a) ?_ (fun g hg ih' => ?_) 0 (Nat.zero_le _)
    · refine sg108_21 l G _ 332 _ _ _ _ _ _ _ ?_
      try simp (disch := omega) only [hc.1.1.2.1.all, hc.1.1.2.2.1, hc.1.1.2.2.2.1.all, hc.1.1.2.2.2.all, hc.1.2, hc.2, wr_s, in_nI, clN, ti_z, ti_l, true_and, and_true, kI, zI, rI, kL, zL, rL, kR, zR, nnI, nnL, nnR, iL, iR, lI, lR, exi, exl, exv, eq_self, nI_add, nI_mul, nI_sub, nI_ltI, nI_leI, nI_eq, q0, q1, q2, q3, q4, q5, q6, q10, q100, br_Tr, br_Fa, iI_s, iI_n, bI_q0, bI_q1, or_true, true_or, not_true_eq_false, not_false_eq_true, nI_l, ge64, Nat.lt_irrefl, Nat.add_sub_cancel, Nat.not_lt_zero, lN_0, lN_1e4, lN_1e6, lN_1e3, lN_add, lN_mul, lN_ltI, lN_leI, lN_eqI, lN_i, lcE, lcLe, lcLt, lN_div, q7, q12, q20, q99, q200, q999, q1e4, if_true, if_false, Nat.le_refl]
      rw [pcG_sum ha hh ht]
      exact ih
    · have hbi := (buy_in ha hh (show g < 4 by omega) m).1
      have hb9 := (buy_in ha hh (show g < 4 by omega) m).2.1
      rw [sumN_s, ← Nat.add_assoc] at ih'
      refine sg108_21 l G _ 332 _ _ _ _ _ _ _ ?_
      try simp (disch := omega) only [hc.1.1.2.1.all, hc.1.1.2.2.1, hc.1.1.2.2.2.1.all, hc.1.1.2.2.2.all, hc.1.2, hc.2, hg, wr_s, in_nI, clN, ti_z, ti_l, true_and, and_true, kI, zI, rI, kL, zL, rL, kR, zR, nnI, nnL, nnR, iL, iR, lI, lR, exi, exl, exv, eq_self, nI_add, nI_mul, nI_sub, nI_ltI, nI_leI, nI_eq, q0, q1, q2, q3, q4, q5, q6, q10, q100, br_Tr, br_Fa, iI_s, iI_n, bI_q0, bI_q1, or_true, true_or, not_true_eq_false, not_false_eq_true, nI_l, ge64, Nat.lt_irrefl, Nat.add_sub_cancel, Nat.not_lt_zero, lN_0, lN_1e4, lN_1e6, lN_1e3, lN_add, lN_mul, lN_ltI, lN_leI, lN_eqI, lN_i, lcE, lcLe, lcLt, lN_div, q7, q12, q20, q99, q200, q999, q1e4, if_true, if_false, Nat.le_refl]
      refine d65 hc.1.1 hh hg ?_
      try simp (disch := omega) only [hc.1.1.2.1.all, hc.1.1.2.2.1, hc.1.1.2.2.2.1.all, hc.1.1.2.2.2.all, hc.1.2, hc.2, wr_s, in_nI, clN, ti_z, ti_l, true_and, and_true, kI, zI, rI, kL, zL, rL, kR, zR, nnI, nnL, nnR, iL, iR, lI, lR, exi, exl, exv, eq_self, nI_add, nI_mul, nI_sub, nI_ltI, nI_leI, nI_eq, q0, q1, q2, q3, q4, q5, q6, q10, q100, br_Tr, br_Fa, iI_s, iI_n, bI_q0, bI_q1, or_true, true_or, not_true_eq_false, not_false_eq_true, nI_l, ge64, Nat.lt_irrefl, Nat.add_sub_cancel, Nat.not_lt_zero, lN_0, lN_1e4, lN_1e6, lN_1e3, lN_add, lN_mul, lN_ltI, lN_leI, lN_eqI, lN_i, lcE, lcLe, lcLt, lN_div, q7, q12, q20, q99, q200, q999, q1e4, if_true, if_false, Nat.le_refl]
      refine ax_brc (fun h1 => ?_) (fun h1 => ?_)
      · have h2 : hW a h g = 0 := by
          have := of_decide_eq_false h1
          omega
        rw [show pcG a h t m g = 0 by unfold pcG; rw [buy_w0 h2, if_neg (fun e => by cases e)]] at ih'
        exact ih'
      · have h2 : 0 < hW a h g := Nat.pos_of_ne_zero (by simpa using h1)
        refine d72 ?_
        try simp (disch := omega) only [hc.1.1.2.1.all, hc.1.1.2.2.1, hc.1.1.2.2.2.1.all, hc.1.1.2.2.2.all, hc.1.2, hc.2, wr_s, in_nI, clN, ti_z, ti_l, true_and, and_true, kI, zI, rI, kL, zL, rL, kR, zR, nnI, nnL, nnR, iL, iR, lI, lR, exi, exl, exv, eq_self, nI_add, nI_mul, nI_sub, nI_ltI, nI_leI, nI_eq, q0, q1, q2, q3, q4, q5, q6, q10, q100, br_Tr, br_Fa, iI_s, iI_n, bI_q0, bI_q1, or_true, true_or, not_true_eq_false, not_false_eq_true, nI_l, ge64, Nat.lt_irrefl, Nat.add_sub_cancel, Nat.not_lt_zero, lN_0, lN_1e4, lN_1e6, lN_1e3, lN_add, lN_mul, lN_ltI, lN_leI, lN_eqI, lN_i, lcE, lcLe, lcLt, lN_div, q7, q12, q20, q99, q200, q999, q1e4, if_true, if_false, Nat.le_refl]
        rw [enc_eq (fun t' e => by have := hbi t' e; omega) (by omega)]
        refine ax_brc (fun h3 => ?_) (fun h3 => ?_)
        · rw [show pcG a h t m g = (buy a h g m).2 from if_pos h3] at ih'
          refine d72 ?_
          try simp (disch := omega) only [hc.1.1.2.1.all, hc.1.1.2.2.1, hc.1.1.2.2.2.1.all, hc.1.1.2.2.2.all, hc.1.2, hc.2, wr_s, in_nI, clN, ti_z, ti_l, true_and, and_true, kI, zI, rI, kL, zL, rL, kR, zR, nnI, nnL, nnR, iL, iR, lI, lR, exi, exl, exv, eq_self, nI_add, nI_mul, nI_sub, nI_ltI, nI_leI, nI_eq, q0, q1, q2, q3, q4, q5, q6, q10, q100, br_Tr, br_Fa, iI_s, iI_n, bI_q0, bI_q1, or_true, true_or, not_true_eq_false, not_false_eq_true, nI_l, ge64, Nat.lt_irrefl, Nat.add_sub_cancel, Nat.not_lt_zero, lN_0, lN_1e4, lN_1e6, lN_1e3, lN_add, lN_mul, lN_ltI, lN_leI, lN_eqI, lN_i, lcE, lcLe, lcLt, lN_div, q7, q12, q20, q99, q200, q999, q1e4, if_true, if_false, Nat.le_refl]
          exact ih'
        · rw [show pcG a h t m g = 0 from if_neg h3] at ih'
          exact ih'
theorem d154 {t m : Nat} {K : Int32 → ax_M → Prop} (hc : MT μ N a) (ht : t < nTh a) (hm : m < nMo a) (q : K (e4 (neaK a t m (nTh a))) μ) : ax_CI l G 154 [ax_r (some 332), ax_i (nI t), ax_i (nI m)] μ K := by
  have hb := hc.bd
  have hl := lst_le a t m
  have hgt := hc.1.1.tg ht
  have s2 := (stt_in hc.1.1 ht (lst a t m)).1
  refine ax_Ct.of (by decide) (Nat.le_of_ble_eq_true rfl) (sg154_0 l G _ 332 _ _ _ ?_)
  try simp (disch := omega) only [hc.1.2.1.all, hc.1.2.2.1, hc.1.2.2.2.1.all, hc.1.2.2.2.all, hc.2, wr_s, in_nI, clN, ti_z, ti_l, true_and, and_true, kI, zI, rI, kL, zL, rL, kR, zR, nnI, nnL, nnR, iL, iR, lI, lR, exi, exl, exv, eq_self, nI_add, nI_mul, nI_sub, nI_ltI, nI_leI, nI_eq, q0, q1, q2, q3, q4, q5, q6, q10, q100, br_Tr, br_Fa, iI_s, iI_n, bI_q0, bI_q1, or_true, true_or, not_true_eq_false, not_false_eq_true, nI_l, ge64, Nat.lt_irrefl, Nat.add_sub_cancel, Nat.not_lt_zero, lN_0, lN_1e4, lN_1e6, lN_1e3, lN_add, lN_mul, lN_ltI, lN_leI, lN_eqI, lN_i, lcE, lcLe, lcLt, lN_div, q7, q12, q20, q99, q200, q999, q1e4, if_true, if_false, Nat.le_refl]
  refine d113 hc ht hm ?_
  refine d50 ?_
  try simp (disch := omega) only [hc.1.2.1.all, hc.1.2.2.1, hc.1.2.2.2.1.all, hc.1.2.2.2.all, hc.2, wr_s, in_nI, clN, ti_z, ti_l, true_and, and_true, kI, zI, rI, kL, zL, rL, kR, zR, nnI, nnL, nnR, iL, iR, lI, lR, exi, exl, exv, eq_self, nI_add, nI_mul, nI_sub, nI_ltI, nI_leI, nI_eq, q0, q1, q2, q3, q4, q5, q6, q10, q100, br_Tr, br_Fa, iI_s, iI_n, bI_q0, bI_q1, or_true, true_or, not_true_eq_false, not_false_eq_true, nI_l, ge64, Nat.lt_irrefl, Nat.add_sub_cancel, Nat.not_lt_zero, lN_0, lN_1e4, lN_1e6, lN_1e3, lN_add, lN_mul, lN_ltI, lN_leI, lN_eqI, lN_i, lcE, lcLe, lcLt, lN_div, q7, q12, q20, q99, q200, q999, q1e4, if_true, if_false, Nat.le_refl]
  refine up_to (P := fun k => (ax_Rw l G ax_h154 (ax_E G ax_h154 (fun x μ' => ∃ v : Int32, x = some (ax_i v) ∧ K v μ')) 26 [(0, ax_r (some 332)), (1, ax_i (nI t)), (2, ax_i (nI m)), (3, ax_i (nI (Sz a t (lst a t m)))), (4, ax_i (e4 (neaK a t m k))), (5, ax_i (e5 (neaK a t m k))), (6, ax_i (nI k))] [] 0 0 μ)) (nTh a) ?_ (fun k hk ih => ?_) 0 (Nat.zero_le _)
  · refine sg154_26 l G _ 332 _ _ _ _ _ _ _ ?_
    try simp (disch := omega) only [hc.1.2.1.all, hc.1.2.2.1, hc.1.2.2.2.1.all, hc.1.2.2.2.all, hc.2, wr_s, in_nI, clN, ti_z, ti_l, true_and, and_true, kI, zI, rI, kL, zL, rL, kR, zR, nnI, nnL, nnR, iL, iR, lI, lR, exi, exl, exv, eq_self, nI_add, nI_mul, nI_sub, nI_ltI, nI_leI, nI_eq, q0, q1, q2, q3, q4, q5, q6, q10, q100, br_Tr, br_Fa, iI_s, iI_n, bI_q0, bI_q1, or_true, true_or, not_true_eq_false, not_false_eq_true, nI_l, ge64, Nat.lt_irrefl, Nat.add_sub_cancel, Nat.not_lt_zero, lN_0, lN_1e4, lN_1e6, lN_1e3, lN_add, lN_mul, lN_ltI, lN_leI, lN_eqI, lN_i, lcE, lcLe, lcLt, lN_div, q7, q12, q20, q99, q200, q999, q1e4, if_true, if_false, Nat.le_refl]
    exact q
  · have hgk := hc.1.1.tg hk
    have s1 := (stt_in hc.1.1 hk m).1
    have hd : dif (Sz a k m) (Sz a t (lst a t m)) ≤ 999 := by unfold dif; omega
    refine sg154_26 l G _ 332 _ _ _ _ _ _ _ ?_
    try simp (disch := omega) only [hc.1.2.1.all, hc.1.2.2.1, hc.1.2.2.2.1.all, hc.1.2.2.2.all, hc.2, hk, wr_s, in_nI, clN, ti_z, ti_l, true_and, and_true, kI, zI, rI, kL, zL, rL, kR, zR, nnI, nnL, nnR, iL, iR, lI, lR, exi, exl, exv, eq_self, nI_add, nI_mul, nI_ltI, nI_leI, nI_eq, q0, q1, q2, q3, q4, q5, q6, q10, q100, br_Tr, br_Fa, iI_s, iI_n, bI_q0, bI_q1, or_true, true_or, not_true_eq_false, not_false_eq_true, nI_l, ge64, Nat.lt_irrefl, Nat.add_sub_cancel, Nat.not_lt_zero, lN_0, lN_1e4, lN_1e6, lN_1e3, lN_add, lN_mul, lN_ltI, lN_leI, lN_eqI, lN_i, lcE, lcLe, lcLt, lN_div, q7, q12, q20, q99, q200, q999, q1e4, if_true, if_false, Nat.le_refl]
    unfold neaK at ih
    refine ax_brc (fun h1 => ?_) (fun h1 => ?_)
    · refine d50 ?_
      try simp (disch := omega) only [hc.1.2.1.all, hc.1.2.2.1, hc.1.2.2.2.1.all, hc.1.2.2.2.all, hc.2, wr_s, in_nI, clN, ti_z, ti_l, true_and, and_true, kI, zI, rI, kL, zL, rL, kR, zR, nnI, nnL, nnR, iL, iR, lI, lR, exi, exl, exv, eq_self, nI_add, nI_mul, nI_ltI, nI_leI, nI_eq, q0, q1, q2, q3, q4, q5, q6, q10, q100, br_Tr, br_Fa, iI_s, iI_n, bI_q0, bI_q1, or_true, true_or, not_true_eq_false, not_false_eq_true, nI_l, ge64, Nat.lt_irrefl, Nat.add_sub_cancel, Nat.not_lt_zero, lN_0, lN_1e4, lN_1e6, lN_1e3, lN_add, lN_mul, lN_ltI, lN_leI, lN_eqI, lN_i, lcE, lcLe, lcLt, lN_div, q7, q12, q20, q99, q200, q999, q1e4, if_true, if_false, Nat.le_refl]
      refine ax_brc (fun h2 => ?_) (fun h2 => ?_)
      · rw [if_neg (fun q => by rw [q.2] at h2; cases h2)] at ih
        exact ih
      · rw [if_pos ⟨h1, by simpa using h2⟩] at ih
        refine d50 ?_
        try simp (disch := omega) only [hc.1.2.1.all, hc.1.2.2.1, hc.1.2.2.2.1.all, hc.1.2.2.2.all, hc.2, wr_s, in_nI, clN, ti_z, ti_l, true_and, and_true, kI, zI, rI, kL, zL, rL, kR, zR, nnI, nnL, nnR, iL, iR, lI, lR, exi, exl, exv, eq_self, nI_add, nI_mul, nI_ltI, nI_leI, nI_eq, q0, q1, q2, q3, q4, q5, q6, q10, q100, br_Tr, br_Fa, iI_s, iI_n, bI_q0, bI_q1, or_true, true_or, not_true_eq_false, not_false_eq_true, nI_l, ge64, Nat.lt_irrefl, Nat.add_sub_cancel, Nat.not_lt_zero, lN_0, lN_1e4, lN_1e6, lN_1e3, lN_add, lN_mul, lN_ltI, lN_leI, lN_eqI, lN_i, lcE, lcLe, lcLt, lN_div, q7, q12, q20, q99, q200, q999, q1e4, if_true, if_false, Nat.le_refl]
        have fin : ax_br (e4 (neaK a t m k) = -nI 2) (ax_Rw l G ax_h154 (ax_E G ax_h154 (fun x μ' => ∃ v : Int32, x = some (ax_i v) ∧ K v μ')) 26 [(0, ax_r (some 332)), (1, ax_i (nI t)), (2, ax_i (nI m)), (3, ax_i (nI (Sz a t (lst a t m)))), (4, ax_i (nI k)), (5, ax_i (nI (dif (Sz a k m) (Sz a t (lst a t m))))), (6, ax_i (nI (k + 1)))] [] 0 0 μ) (ax_br (nI (dif (Sz a k m) (Sz a t (lst a t m))) < e5 (neaK a t m k)) (ax_Rw l G ax_h154 (ax_E G ax_h154 (fun x μ' => ∃ v : Int32, x = some (ax_i v) ∧ K v μ')) 26 [(0, ax_r (some 332)), (1, ax_i (nI t)), (2, ax_i (nI m)), (3, ax_i (nI (Sz a t (lst a t m)))), (4, ax_i (nI k)), (5, ax_i (nI (dif (Sz a k m) (Sz a t (lst a t m))))), (6, ax_i (nI (k + 1)))] [] 0 0 μ) (ax_Rw l G ax_h154 (ax_E G ax_h154 (fun x μ' => ∃ v : Int32, x = some (ax_i v) ∧ K v μ')) 26 [(0, ax_r (some 332)), (1, ax_i (nI t)), (2, ax_i (nI m)), (3, ax_i (nI (Sz a t (lst a t m)))), (4, ax_i (e4 (neaK a t m k))), (5, ax_i (e5 (neaK a t m k))), (6, ax_i (nI (k + 1)))] [] 0 0 μ)) := by
          cases hkk : neaK a t m k with
          | none =>
            rw [hkk] at ih
            exact ax_brt (by decide +kernel) ih
          | some b =>
            rw [hkk] at ih
            have hi := neaK_in hc.1.1 (m := m) ht k (by omega) b hkk
            refine ax_brf (fun e => neg2_ne (show b.1 < 2 ^ 31 by omega) e.symm) ?_
            simp only at ih
            refine br_lt (dif (Sz a k m) (Sz a t (lst a t m))) b.2 rfl rfl (by omega) (by omega) (fun h => ?_) (fun h => ?_)
            · rw [if_pos h] at ih; exact ih
            · rw [if_neg (by omega)] at ih; exact ih
        refine ax_brc (fun h3 => ?_) (fun h3 => ?_)
        · rw [neg_dif (by omega) (by omega) h3]; exact fin
        · rw [pos_dif (by omega) (by omega) h3]; exact fin
    · rw [if_neg (fun q => h1 q.1)] at ih
      exact ih
theorem d180 {o t li m : Nat} {K : Int64 → ax_M → Prop} (hc : MB μ N a) (ho : o < nOf a) (ht : t < nTh a) (hli : li < nMo a) (hm : m < nMo a) (q : K (lN (pTh a o li m t)) μ) : ax_CL l G 180 [ax_r (some 332), ax_i (nI o), ax_i (nI t), ax_i (nI li), ax_i (nI m)] μ K := by
  have hb := hc.bd
  have ha := hc.1.1.1
  have hl := lst_le a t m
  have hof := ha.of ho
  have hcn := cnt_in ha (o := o) (m := li) ht
  unfold pTh at q
  refine ax_Ct.of (by decide) (Nat.le_of_ble_eq_true rfl) (sg180_0 l G _ 332 _ _ _ _ _ ?_)
  try simp (disch := omega) only [hc.1.1.2.1.all, hc.1.1.2.2.1, hc.1.1.2.2.2.1.all, hc.1.1.2.2.2.all, hc.1.2, hc.2, wr_s, in_nI, clN, ti_z, ti_l, true_and, and_true, kI, zI, rI, kL, zL, rL, kR, zR, nnI, nnL, nnR, iL, iR, lI, lR, exi, exl, exv, eq_self, nI_add, nI_mul, nI_sub, nI_ltI, nI_leI, nI_eq, q0, q1, q2, q3, q4, q5, q6, q10, q100, br_Tr, br_Fa, iI_s, iI_n, bI_q0, bI_q1, or_true, true_or, not_true_eq_false, not_false_eq_true, nI_l, ge64, Nat.lt_irrefl, Nat.add_sub_cancel, Nat.not_lt_zero, lN_0, lN_1e4, lN_1e6, lN_1e3, lN_add, lN_mul, lN_ltI, lN_leI, lN_eqI, lN_i, lcE, lcLe, lcLt, lN_div, q7, q12, q20, q99, q200, q999, q1e4, if_true, if_false, Nat.le_refl]
  refine d108 hc ho ht hli ?_
  try simp (disch := omega) only [hc.1.1.2.1.all, hc.1.1.2.2.1, hc.1.1.2.2.2.1.all, hc.1.1.2.2.2.all, hc.1.2, hc.2, wr_s, in_nI, clN, ti_z, ti_l, true_and, and_true, kI, zI, rI, kL, zL, rL, kR, zR, nnI, nnL, nnR, iL, iR, lI, lR, exi, exl, exv, eq_self, nI_add, nI_mul, nI_sub, nI_ltI, nI_leI, nI_eq, q0, q1, q2, q3, q4, q5, q6, q10, q100, br_Tr, br_Fa, iI_s, iI_n, bI_q0, bI_q1, or_true, true_or, not_true_eq_false, not_false_eq_true, nI_l, ge64, Nat.lt_irrefl, Nat.add_sub_cancel, Nat.not_lt_zero, lN_0, lN_1e4, lN_1e6, lN_1e3, lN_add, lN_mul, lN_ltI, lN_leI, lN_eqI, lN_i, lcE, lcLe, lcLt, lN_div, q7, q12, q20, q99, q200, q999, q1e4, if_true, if_false, Nat.le_refl]
  refine ax_brc (fun h1 => ?_) (fun h1 => ?_)
  · rw [if_pos (Or.inl h1)] at q; exact q
  · refine d50 ?_
    try simp (disch := omega) only [hc.1.1.2.1.all, hc.1.1.2.2.1, hc.1.1.2.2.2.1.all, hc.1.1.2.2.2.all, hc.1.2, hc.2, wr_s, in_nI, clN, ti_z, ti_l, true_and, and_true, kI, zI, rI, kL, zL, rL, kR, zR, nnI, nnL, nnR, iL, iR, lI, lR, exi, exl, exv, eq_self, nI_add, nI_mul, nI_sub, nI_ltI, nI_leI, nI_eq, q0, q1, q2, q3, q4, q5, q6, q10, q100, br_Tr, br_Fa, iI_s, iI_n, bI_q0, bI_q1, or_true, true_or, not_true_eq_false, not_false_eq_true, nI_l, ge64, Nat.lt_irrefl, Nat.add_sub_cancel, Nat.not_lt_zero, lN_0, lN_1e4, lN_1e6, lN_1e3, lN_add, lN_mul, lN_ltI, lN_leI, lN_eqI, lN_i, lcE, lcLe, lcLt, lN_div, q7, q12, q20, q99, q200, q999, q1e4, if_true, if_false, Nat.le_refl]
    refine ax_brc (fun h2 => ?_) (fun h2 => ?_)
    · have elf : lft a o t m = decide (oM a o = 2) := by unfold lft; rw [h2]; simp
      refine ax_brc (fun h3 => ?_) (fun h3 => ?_)
      · rw [if_pos (Or.inr (by rw [elf]; exact decide_eq_true h3))] at q; exact q
      · rw [if_neg (by rw [elf, decide_eq_false h3]; simpa using h1)] at q
        refine ax_brc (fun h4 => ?_) (fun h4 => ?_)
        · have es : sIn1 a o t m = (match neaK a t m (nTh a) with | none => t | some b => b.1) := by
            unfold sIn1; rw [if_neg (by rw [h2]; simpa using h4)]; rfl
          refine d154 hc.1 ht hm ?_
          try simp (disch := omega) only [hc.1.1.2.1.all, hc.1.1.2.2.1, hc.1.1.2.2.2.1.all, hc.1.1.2.2.2.all, hc.1.2, hc.2, wr_s, in_nI, clN, ti_z, ti_l, true_and, and_true, kI, zI, rI, kL, zL, rL, kR, zR, nnI, nnL, nnR, iL, iR, lI, lR, exi, exl, exv, eq_self, nI_add, nI_mul, nI_sub, nI_ltI, nI_leI, nI_eq, q0, q1, q2, q3, q4, q5, q6, q10, q100, br_Tr, br_Fa, iI_s, iI_n, bI_q0, bI_q1, or_true, true_or, not_true_eq_false, not_false_eq_true, nI_l, ge64, Nat.lt_irrefl, Nat.add_sub_cancel, Nat.not_lt_zero, lN_0, lN_1e4, lN_1e6, lN_1e3, lN_add, lN_mul, lN_ltI, lN_leI, lN_eqI, lN_i, lcE, lcLe, lcLt, lN_div, q7, q12, q20, q99, q200, q999, q1e4, if_true, if_false, Nat.le_refl]
          cases hk : neaK a t m (nTh a) with
          | none =>
            rw [hk] at es
            simp only at es
            rw [es, if_pos rfl] at q
            try simp (disch := omega) only [hc.1.1.2.1.all, hc.1.1.2.2.1, hc.1.1.2.2.2.1.all, hc.1.1.2.2.2.all, hc.1.2, hc.2, show e4 none = -nI 2 by decide +kernel, wr_s, in_nI, clN, ti_z, ti_l, true_and, and_true, kI, zI, rI, kL, zL, rL, kR, zR, nnI, nnL, nnR, iL, iR, lI, lR, exi, exl, exv, eq_self, nI_add, nI_mul, nI_sub, nI_ltI, nI_leI, nI_eq, q0, q1, q2, q3, q4, q5, q6, q10, q100, br_Tr, br_Fa, iI_s, iI_n, bI_q0, bI_q1, or_true, true_or, not_true_eq_false, not_false_eq_true, nI_l, ge64, Nat.lt_irrefl, Nat.add_sub_cancel, Nat.not_lt_zero, lN_0, lN_1e4, lN_1e6, lN_1e3, lN_add, lN_mul, lN_ltI, lN_leI, lN_eqI, lN_i, lcE, lcLe, lcLt, lN_div, q7, q12, q20, q99, q200, q999, q1e4, if_true, if_false, Nat.le_refl]
            refine d113 hc.1 ht hm ?_
            try simp (disch := omega) only [hc.1.1.2.1.all, hc.1.1.2.2.1, hc.1.1.2.2.2.1.all, hc.1.1.2.2.2.all, hc.1.2, hc.2, wr_s, in_nI, clN, ti_z, ti_l, true_and, and_true, kI, zI, rI, kL, zL, rL, kR, zR, nnI, nnL, nnR, iL, iR, lI, lR, exi, exl, exv, eq_self, nI_add, nI_mul, nI_sub, nI_ltI, nI_leI, nI_eq, q0, q1, q2, q3, q4, q5, q6, q10, q100, br_Tr, br_Fa, iI_s, iI_n, bI_q0, bI_q1, or_true, true_or, not_true_eq_false, not_false_eq_true, nI_l, ge64, Nat.lt_irrefl, Nat.add_sub_cancel, Nat.not_lt_zero, lN_0, lN_1e4, lN_1e6, lN_1e3, lN_add, lN_mul, lN_ltI, lN_leI, lN_eqI, lN_i, lcE, lcLe, lcLt, lN_div, q7, q12, q20, q99, q200, q999, q1e4, if_true, if_false, Nat.le_refl]
            refine d119 hc.1 ho ht (by omega) ?_
            try simp (disch := omega) only [wr_s, in_nI, clN, ti_z, ti_l, true_and, and_true, kI, zI, rI, kL, zL, rL, kR, zR, nnI, nnL, nnR, iL, iR, lI, lR, exi, exl, exv, eq_self, nI_add, nI_mul, nI_sub, nI_ltI, nI_leI, nI_eq, q0, q1, q2, q3, q4, q5, q6, q10, q100, br_Tr, br_Fa, iI_s, iI_n, bI_q0, bI_q1, or_true, true_or, not_true_eq_false, not_false_eq_true, nI_l, ge64, Nat.lt_irrefl, Nat.add_sub_cancel, Nat.not_lt_zero, lN_0, lN_1e4, lN_1e6, lN_1e3, lN_add, lN_mul, lN_ltI, lN_leI, lN_eqI, lN_i, lcE, lcLe, lcLt, lN_div, q7, q12, q20, q99, q200, q999, q1e4, if_true, if_false, Nat.le_refl]
            exact q
          | some b =>
            rw [hk] at es
            simp only at es
            have hi := neaK_in ha (m := m) ht (nTh a) (Nat.le_refl _) b hk
            rw [es, if_neg (fun e => by rw [e] at hi; rw [h2] at hi; exact absurd hi.2.2.1 Bool.false_ne_true)] at q
            try simp (disch := omega) only [hc.1.1.2.1.all, hc.1.1.2.2.1, hc.1.1.2.2.2.1.all, hc.1.1.2.2.2.all, hc.1.2, hc.2, show e4 (some b) = nI b.1 from rfl, wr_s, in_nI, clN, ti_z, ti_l, true_and, and_true, kI, zI, rI, kL, zL, rL, kR, zR, nnI, nnL, nnR, iL, iR, lI, lR, exi, exl, exv, eq_self, nI_add, nI_mul, nI_sub, nI_ltI, nI_leI, nI_eq, q0, q1, q2, q3, q4, q5, q6, q10, q100, br_Tr, br_Fa, iI_s, iI_n, bI_q0, bI_q1, or_true, true_or, not_true_eq_false, not_false_eq_true, nI_l, ge64, Nat.lt_irrefl, Nat.add_sub_cancel, Nat.not_lt_zero, lN_0, lN_1e4, lN_1e6, lN_1e3, lN_add, lN_mul, lN_ltI, lN_leI, lN_eqI, lN_i, lcE, lcLe, lcLt, lN_div, q7, q12, q20, q99, q200, q999, q1e4, if_true, if_false, Nat.le_refl]
            refine ax_brf (fun e => neg2_ne (show b.1 < 2 ^ 31 by omega) e.symm) ?_
            refine d119 hc.1 ho hi.1 hm ?_
            try simp (disch := omega) only [wr_s, in_nI, clN, ti_z, ti_l, true_and, and_true, kI, zI, rI, kL, zL, rL, kR, zR, nnI, nnL, nnR, iL, iR, lI, lR, exi, exl, exv, eq_self, nI_add, nI_mul, nI_sub, nI_ltI, nI_leI, nI_eq, q0, q1, q2, q3, q4, q5, q6, q10, q100, br_Tr, br_Fa, iI_s, iI_n, bI_q0, bI_q1, or_true, true_or, not_true_eq_false, not_false_eq_true, nI_l, ge64, Nat.lt_irrefl, Nat.add_sub_cancel, Nat.not_lt_zero, lN_0, lN_1e4, lN_1e6, lN_1e3, lN_add, lN_mul, lN_ltI, lN_leI, lN_eqI, lN_i, lcE, lcLe, lcLt, lN_div, q7, q12, q20, q99, q200, q999, q1e4, if_true, if_false, Nat.le_refl]
            exact q
        · have es : sIn1 a o t m = t := by unfold sIn1; rw [if_pos (Or.inr h4)]
          rw [es, if_pos rfl] at q
          refine d113 hc.1 ht hm ?_
          try simp (disch := omega) only [hc.1.1.2.1.all, hc.1.1.2.2.1, hc.1.1.2.2.2.1.all, hc.1.1.2.2.2.all, hc.1.2, hc.2, wr_s, in_nI, clN, ti_z, ti_l, true_and, and_true, kI, zI, rI, kL, zL, rL, kR, zR, nnI, nnL, nnR, iL, iR, lI, lR, exi, exl, exv, eq_self, nI_add, nI_mul, nI_sub, nI_ltI, nI_leI, nI_eq, q0, q1, q2, q3, q4, q5, q6, q10, q100, br_Tr, br_Fa, iI_s, iI_n, bI_q0, bI_q1, or_true, true_or, not_true_eq_false, not_false_eq_true, nI_l, ge64, Nat.lt_irrefl, Nat.add_sub_cancel, Nat.not_lt_zero, lN_0, lN_1e4, lN_1e6, lN_1e3, lN_add, lN_mul, lN_ltI, lN_leI, lN_eqI, lN_i, lcE, lcLe, lcLt, lN_div, q7, q12, q20, q99, q200, q999, q1e4, if_true, if_false, Nat.le_refl]
          refine d119 hc.1 ho ht (by omega) ?_
          try simp (disch := omega) only [wr_s, in_nI, clN, ti_z, ti_l, true_and, and_true, kI, zI, rI, kL, zL, rL, kR, zR, nnI, nnL, nnR, iL, iR, lI, lR, exi, exl, exv, eq_self, nI_add, nI_mul, nI_sub, nI_ltI, nI_leI, nI_eq, q0, q1, q2, q3, q4, q5, q6, q10, q100, br_Tr, br_Fa, iI_s, iI_n, bI_q0, bI_q1, or_true, true_or, not_true_eq_false, not_false_eq_true, nI_l, ge64, Nat.lt_irrefl, Nat.add_sub_cancel, Nat.not_lt_zero, lN_0, lN_1e4, lN_1e6, lN_1e3, lN_add, lN_mul, lN_ltI, lN_leI, lN_eqI, lN_i, lcE, lcLe, lcLt, lN_div, q7, q12, q20, q99, q200, q999, q1e4, if_true, if_false, Nat.le_refl]
          exact q
    · have hT : Tr a t m = true := by simpa using h2
      have elf : lft a o t m = false := by unfold lft; rw [hT]; simp
      have es : sIn1 a o t m = t := by unfold sIn1; rw [if_pos (Or.inl hT)]
      rw [if_neg (by rw [elf]; simpa using h1), es, if_pos rfl, lst_tr hT] at q
      refine d119 hc.1 ho ht hm ?_
      try simp (disch := omega) only [wr_s, in_nI, clN, ti_z, ti_l, true_and, and_true, kI, zI, rI, kL, zL, rL, kR, zR, nnI, nnL, nnR, iL, iR, lI, lR, exi, exl, exv, eq_self, nI_add, nI_mul, nI_sub, nI_ltI, nI_leI, nI_eq, q0, q1, q2, q3, q4, q5, q6, q10, q100, br_Tr, br_Fa, iI_s, iI_n, bI_q0, bI_q1, or_true, true_or, not_true_eq_false, not_false_eq_true, nI_l, ge64, Nat.lt_irrefl, Nat.add_sub_cancel, Nat.not_lt_zero, lN_0, lN_1e4, lN_1e6, lN_1e3, lN_add, lN_mul, lN_ltI, lN_leI, lN_eqI, lN_i, lcE, lcLe, lcLt, lN_div, q7, q12, q20, q99, q200, q999, q1e4, if_true, if_false, Nat.le_refl]
      exact q
def pX (a : Ld) (o li m : Nat) (own : Bool) (t : Nat) : Nat := cond own (pOw a o li m t) (pTh a o li m t)
def sX (a : Ld) (o li m s : Nat) (own : Bool) (n : Nat) : Nat := sumN (fun t => if s.testBit t = true then pX a o li m own t else 0) n
theorem d190 {o li m s : Nat} {own : Bool} {K : Int64 → ax_M → Prop} (hc : MB μ N a) (ho : o < nOf a) (hli : li < nMo a) (hm : m < nMo a) (hs : s < 256) (q : K (lN (sX a o li m s own (nTh a))) μ) : ax_CL l G 190 [ax_r (some 332), ax_i (nI o), ax_i (nI li), ax_i (nI m), ax_i (nI s), ax_i (bI own)] μ K := by
  have hb := hc.bd
  have ha := hc.1.1.1
  have hof := ha.of ho
  refine ax_Ct.of (by decide) (Nat.le_of_ble_eq_true rfl) (sg190_0 l G _ 332 _ _ _ _ _ _ ?_)
  try simp (disch := omega) only [wr_s, in_nI, clN, ti_z, ti_l, true_and, and_true, kI, zI, rI, kL, zL, rL, kR, zR, nnI, nnL, nnR, iL, iR, lI, lR, exi, exl, exv, eq_self, nI_add, nI_mul, nI_sub, nI_ltI, nI_leI, nI_eq, q0, q1, q2, q3, q4, q5, q6, q10, q100, br_Tr, br_Fa, iI_s, iI_n, bI_q0, bI_q1, or_true, true_or, not_true_eq_false, not_false_eq_true, nI_l, ge64, Nat.lt_irrefl, Nat.add_sub_cancel, Nat.not_lt_zero, lN_0, lN_1e4, lN_1e6, lN_1e3, lN_add, lN_mul, lN_ltI, lN_leI, lN_eqI, lN_i, lcE, lcLe, lcLt, lN_div, q7, q12, q20, q99, q200, q999, q1e4, if_true, if_false, Nat.le_refl]
  refine up_to (P := fun t => (ax_Rw l G ax_h190 (ax_E G ax_h190 (fun x μ' => ∃ v : Int64, x = some (ax_l v) ∧ K v μ')) 6 [(0, ax_r (some 332)), (1, ax_i (nI o)), (2, ax_i (nI li)), (3, ax_i (nI m)), (4, ax_i (nI s)), (5, ax_i (bI own)), (6, ax_l (lN (sX a o li m s own t))), (8, ax_i (nI t))] [] 0 0 μ)) (nTh a) ?_ (fun t ht ih => ?_) 0 (Nat.zero_le _)
  · refine sg190_6 l G _ 332 _ _ _ _ _ _ _ _ ?_
    try simp (disch := omega) only [hc.1.1.2.1.all, hc.1.1.2.2.1, hc.1.1.2.2.2.1.all, hc.1.1.2.2.2.all, hc.1.2, hc.2, wr_s, in_nI, clN, ti_z, ti_l, true_and, and_true, kI, zI, rI, kL, zL, rL, kR, zR, nnI, nnL, nnR, iL, iR, lI, lR, exi, exl, exv, eq_self, nI_add, nI_mul, nI_sub, nI_ltI, nI_leI, nI_eq, q0, q1, q2, q3, q4, q5, q6, q10, q100, br_Tr, br_Fa, iI_s, iI_n, bI_q0, bI_q1, or_true, true_or, not_true_eq_false, not_false_eq_true, nI_l, ge64, Nat.lt_irrefl, Nat.add_sub_cancel, Nat.not_lt_zero, lN_0, lN_1e4, lN_1e6, lN_1e3, lN_add, lN_mul, lN_ltI, lN_leI, lN_eqI, lN_i, lcE, lcLe, lcLt, lN_div, q7, q12, q20, q99, q200, q999, q1e4, if_true, if_false, Nat.le_refl]
    exact q
  · have e : sX a o li m s own (t + 1) = sX a o li m s own t + (if s.testBit t = true then pX a o li m own t else 0) := rfl
    rw [e] at ih
    refine sg190_6 l G _ 332 _ _ _ _ _ _ _ _ ?_
    try simp (disch := omega) only [hc.1.1.2.1.all, hc.1.1.2.2.1, hc.1.1.2.2.2.1.all, hc.1.1.2.2.2.all, hc.1.2, hc.2, ht, wr_s, in_nI, clN, ti_z, ti_l, true_and, and_true, kI, zI, rI, kL, zL, rL, kR, zR, nnI, nnL, nnR, iL, iR, lI, lR, exi, exl, exv, eq_self, nI_add, nI_mul, nI_sub, nI_ltI, nI_leI, nI_eq, q0, q1, q2, q3, q4, q5, q6, q10, q100, br_Tr, br_Fa, iI_s, iI_n, bI_q0, bI_q1, or_true, true_or, not_true_eq_false, not_false_eq_true, nI_l, ge64, Nat.lt_irrefl, Nat.add_sub_cancel, Nat.not_lt_zero, lN_0, lN_1e4, lN_1e6, lN_1e3, lN_add, lN_mul, lN_ltI, lN_leI, lN_eqI, lN_i, lcE, lcLe, lcLt, lN_div, q7, q12, q20, q99, q200, q999, q1e4, if_true, if_false, Nat.le_refl]
    rw [bit0_ok s hs t (by omega)]
    refine ax_brc (fun h1 => ?_) (fun h1 => ?_)
    · rw [if_neg (by rw [h1]; exact Bool.false_ne_true)] at ih
      exact ih
    · rw [if_pos (by simpa using h1)] at ih
      unfold pX at ih
      cases own
      · refine ax_brt rfl ?_
        refine d180 hc ho ht hli hm ?_
        try simp (disch := omega) only [wr_s, in_nI, clN, ti_z, ti_l, true_and, and_true, kI, zI, rI, kL, zL, rL, kR, zR, nnI, nnL, nnR, iL, iR, lI, lR, exi, exl, exv, eq_self, nI_add, nI_mul, nI_sub, nI_ltI, nI_leI, nI_eq, q0, q1, q2, q3, q4, q5, q6, q10, q100, br_Tr, br_Fa, iI_s, iI_n, bI_q0, bI_q1, or_true, true_or, not_true_eq_false, not_false_eq_true, nI_l, ge64, Nat.lt_irrefl, Nat.add_sub_cancel, Nat.not_lt_zero, lN_0, lN_1e4, lN_1e6, lN_1e3, lN_add, lN_mul, lN_ltI, lN_leI, lN_eqI, lN_i, lcE, lcLe, lcLt, lN_div, q7, q12, q20, q99, q200, q999, q1e4, if_true, if_false, Nat.le_refl]
        exact ih
      · refine ax_brf (by decide) ?_
        unfold pOw at ih
        refine ax_brc (fun h3 => ?_) (fun h3 => ?_)
        · refine d50 ?_
          try simp (disch := omega) only [hc.1.1.2.1.all, hc.1.1.2.2.1, hc.1.1.2.2.2.1.all, hc.1.1.2.2.2.all, hc.1.2, hc.2, wr_s, in_nI, clN, ti_z, ti_l, true_and, and_true, kI, zI, rI, kL, zL, rL, kR, zR, nnI, nnL, nnR, iL, iR, lI, lR, exi, exl, exv, eq_self, nI_add, nI_mul, nI_sub, nI_ltI, nI_leI, nI_eq, q0, q1, q2, q3, q4, q5, q6, q10, q100, br_Tr, br_Fa, iI_s, iI_n, bI_q0, bI_q1, or_true, true_or, not_true_eq_false, not_false_eq_true, nI_l, ge64, Nat.lt_irrefl, Nat.add_sub_cancel, Nat.not_lt_zero, lN_0, lN_1e4, lN_1e6, lN_1e3, lN_add, lN_mul, lN_ltI, lN_leI, lN_eqI, lN_i, lcE, lcLe, lcLt, lN_div, q7, q12, q20, q99, q200, q999, q1e4, if_true, if_false, Nat.le_refl]
          refine ax_brc (fun h2 => ?_) (fun h2 => ?_)
          · have elf : lft a o t m = true := by unfold lft; rw [h2, decide_eq_true h3]; rfl
            simp only [cond_true, elf, if_true] at ih
            exact ih
          · have elf : lft a o t m = false := by unfold lft; rw [show Tr a t m = true by simpa using h2]; simp
            simp only [cond_true, elf, Bool.false_eq_true, if_false] at ih
            rw [← pTh_own ha ht] at ih
            refine d180 hc ho ht hli hli ?_
            try simp (disch := omega) only [wr_s, in_nI, clN, ti_z, ti_l, true_and, and_true, kI, zI, rI, kL, zL, rL, kR, zR, nnI, nnL, nnR, iL, iR, lI, lR, exi, exl, exv, eq_self, nI_add, nI_mul, nI_sub, nI_ltI, nI_leI, nI_eq, q0, q1, q2, q3, q4, q5, q6, q10, q100, br_Tr, br_Fa, iI_s, iI_n, bI_q0, bI_q1, or_true, true_or, not_true_eq_false, not_false_eq_true, nI_l, ge64, Nat.lt_irrefl, Nat.add_sub_cancel, Nat.not_lt_zero, lN_0, lN_1e4, lN_1e6, lN_1e3, lN_add, lN_mul, lN_ltI, lN_leI, lN_eqI, lN_i, lcE, lcLe, lcLt, lN_div, q7, q12, q20, q99, q200, q999, q1e4, if_true, if_false, Nat.le_refl]
            exact ih
        · have elf : lft a o t m = false := by unfold lft; rw [decide_eq_false h3]; rfl
          simp only [cond_true, elf, Bool.false_eq_true, if_false] at ih
          rw [← pTh_own ha ht] at ih
          refine d180 hc ho ht hli hli ?_
          try simp (disch := omega) only [wr_s, in_nI, clN, ti_z, ti_l, true_and, and_true, kI, zI, rI, kL, zL, rL, kR, zR, nnI, nnL, nnR, iL, iR, lI, lR, exi, exl, exv, eq_self, nI_add, nI_mul, nI_sub, nI_ltI, nI_leI, nI_eq, q0, q1, q2, q3, q4, q5, q6, q10, q100, br_Tr, br_Fa, iI_s, iI_n, bI_q0, bI_q1, or_true, true_or, not_true_eq_false, not_false_eq_true, nI_l, ge64, Nat.lt_irrefl, Nat.add_sub_cancel, Nat.not_lt_zero, lN_0, lN_1e4, lN_1e6, lN_1e3, lN_add, lN_mul, lN_ltI, lN_leI, lN_eqI, lN_i, lcE, lcLe, lcLt, lN_div, q7, q12, q20, q99, q200, q999, q1e4, if_true, if_false, Nat.le_refl]
          exact ih
theorem d52 {K : Int32 → ax_M → Prop} (hc : MW μ N a) (q : K (nI (2 ^ nTh a - 1)) μ) : ax_CI l G 52 [ax_r (some 332)] μ K := by
  have hb := hc.bd
  have hp : 1 ≤ 2 ^ nTh a := Nat.one_le_two_pow
  refine ax_Ct.of (by decide) (Nat.le_of_ble_eq_true rfl) (sg52_0 l G _ 332 _ ?_)
  try simp (disch := omega) only [hc.2.1.all, hc.2.2.1, hc.2.2.2.1.all, hc.2.2.2.all, wr_s, in_nI, clN, ti_z, ti_l, true_and, and_true, kI, zI, rI, kL, zL, rL, kR, zR, nnI, nnL, nnR, iL, iR, lI, lR, exi, exl, exv, eq_self, nI_add, nI_mul, nI_sub, nI_ltI, nI_leI, nI_eq, q0, q1, q2, q3, q4, q5, q6, q10, q100, br_Tr, br_Fa, iI_s, iI_n, bI_q0, bI_q1, or_true, true_or, not_true_eq_false, not_false_eq_true, nI_l, ge64, Nat.lt_irrefl, Nat.add_sub_cancel, Nat.not_lt_zero, lN_0, lN_1e4, lN_1e6, lN_1e3, lN_add, lN_mul, lN_ltI, lN_leI, lN_eqI, lN_i, lcE, lcLe, lcLt, lN_div, q7, q12, q20, q99, q200, q999, q1e4, if_true, if_false, Nat.le_refl]
  rw [shl_ok _ (by omega), nI_sub hp]
  exact q
theorem d69 {x y : Nat} {K : Int32 → ax_M → Prop} (hx : x < 2 ^ 48) (hy : y < 2 ^ 63) (q : K (nI (rat x y)) μ) : ax_CI l G 69 [ax_l (lN x), ax_l (lN y)] μ K := by
  unfold rat at q
  have hd : 10000 * x / y < 2 ^ 63 := Nat.lt_of_le_of_lt (Nat.div_le_self _ _) (by omega)
  refine ax_Ct.of (by decide) (Nat.le_of_ble_eq_true rfl) (sg69_0 l G _ _ _ _ ?_)
  try simp (disch := omega) only [wr_s, in_nI, clN, ti_z, ti_l, true_and, and_true, kI, zI, rI, kL, zL, rL, kR, zR, nnI, nnL, nnR, iL, iR, lI, lR, exi, exl, exv, eq_self, nI_add, nI_mul, nI_sub, nI_ltI, nI_leI, nI_eq, q0, q1, q2, q3, q4, q5, q6, q10, q100, br_Tr, br_Fa, iI_s, iI_n, bI_q0, bI_q1, or_true, true_or, not_true_eq_false, not_false_eq_true, nI_l, ge64, Nat.lt_irrefl, Nat.add_sub_cancel, Nat.not_lt_zero, lN_0, lN_1e4, lN_1e6, lN_1e3, lN_add, lN_mul, lN_ltI, lN_leI, lN_eqI, lN_i, lcE, lcLe, lcLt, lN_div, q7, q12, q20, q99, q200, q999, q1e4, if_true, if_false, Nat.le_refl]
  refine ax_brc (fun h => ?_) (fun h => ?_)
  · rw [if_pos h] at q; exact q
  · rw [if_neg h, Nat.mul_comm] at q
    refine ⟨h, ax_brc (fun h2 => ?_) (fun h2 => ?_)⟩
    · rw [Nat.min_eq_right h2] at q; exact q
    · rw [Nat.min_eq_left (by omega)] at q; exact q
theorem sX_all {o li m : Nat} {own : Bool} : sX a o li m (2 ^ nTh a - 1) own (nTh a) = sumN (pX a o li m own) (nTh a) := by
  refine sumN_cong (fun t ht => ?_)
  rw [Nat.testBit_two_pow_sub_one, decide_eq_true ht, if_pos rfl]
theorem d204 {o m : Nat} {K : Int32 → ax_M → Prop} (hc : MB μ N a) (ho : o < nOf a) (hm : m < nMo a) (q : K (nI (num a o m)) μ) : ax_CI l G 204 [ax_r (some 332), ax_i (nI o), ax_i (nI m)] μ K := by
  have hb := hc.bd
  have ha := hc.1.1.1
  have hof := ha.of ho
  have hp : 2 ^ nTh a - 1 < 256 := by have := pow_in _ hb.1.2.2.2.2.1; have : 1 ≤ 2 ^ nTh a := Nat.one_le_two_pow; omega
  refine ax_Ct.of (by decide) (Nat.le_of_ble_eq_true rfl) (sg204_0 l G _ 332 _ _ _ ?_)
  try simp (disch := omega) only [hc.1.1.2.1.all, hc.1.1.2.2.1, hc.1.1.2.2.2.1.all, hc.1.1.2.2.2.all, hc.1.2, hc.2, wr_s, in_nI, clN, ti_z, ti_l, true_and, and_true, kI, zI, rI, kL, zL, rL, kR, zR, nnI, nnL, nnR, iL, iR, lI, lR, exi, exl, exv, eq_self, nI_add, nI_mul, nI_sub, nI_ltI, nI_leI, nI_eq, q0, q1, q2, q3, q4, q5, q6, q10, q100, br_Tr, br_Fa, iI_s, iI_n, bI_q0, bI_q1, or_true, true_or, not_true_eq_false, not_false_eq_true, nI_l, ge64, Nat.lt_irrefl, Nat.add_sub_cancel, Nat.not_lt_zero, lN_0, lN_1e4, lN_1e6, lN_1e3, lN_add, lN_mul, lN_ltI, lN_leI, lN_eqI, lN_i, lcE, lcLe, lcLt, lN_div, q7, q12, q20, q99, q200, q999, q1e4, if_true, if_false, Nat.le_refl]
  refine ax_brc (fun h1 => ?_) (fun h1 => ?_)
  · have hB : ¬ oB a o = 1 := by simpa using h1
    cases m with
    | zero => try simp (disch := omega) only [wr_s, in_nI, clN, ti_z, ti_l, true_and, and_true, kI, zI, rI, kL, zL, rL, kR, zR, nnI, nnL, nnR, iL, iR, lI, lR, exi, exl, exv, eq_self, nI_add, nI_mul, nI_sub, nI_ltI, nI_leI, nI_eq, q0, q1, q2, q3, q4, q5, q6, q10, q100, br_Tr, br_Fa, iI_s, iI_n, bI_q0, bI_q1, or_true, true_or, not_true_eq_false, not_false_eq_true, nI_l, ge64, Nat.lt_irrefl, Nat.add_sub_cancel, Nat.not_lt_zero, lN_0, lN_1e4, lN_1e6, lN_1e3, lN_add, lN_mul, lN_ltI, lN_leI, lN_eqI, lN_i, lcE, lcLe, lcLt, lN_div, q7, q12, q20, q99, q200, q999, q1e4, if_true, if_false, Nat.le_refl]; exact q
    | succ j =>
      unfold num smT smO at q
      rw [if_neg hB, show lsM a o (j + 1) = 0 by unfold lsM; rw [if_neg hB]] at q
      refine ax_brf (by omega) ?_
      refine d52 hc.1.1 ?_
      try simp (disch := omega) only [hc.1.1.2.1.all, hc.1.1.2.2.1, hc.1.1.2.2.2.1.all, hc.1.1.2.2.2.all, hc.1.2, hc.2, wr_s, in_nI, clN, ti_z, ti_l, true_and, and_true, kI, zI, rI, kL, zL, rL, kR, zR, nnI, nnL, nnR, iL, iR, lI, lR, exi, exl, exv, eq_self, nI_add, nI_mul, nI_sub, nI_ltI, nI_leI, nI_eq, q0, q1, q2, q3, q4, q5, q6, q10, q100, br_Tr, br_Fa, iI_s, iI_n, bI_q0, bI_q1, or_true, true_or, not_true_eq_false, not_false_eq_true, nI_l, ge64, Nat.lt_irrefl, Nat.add_sub_cancel, Nat.not_lt_zero, lN_0, lN_1e4, lN_1e6, lN_1e3, lN_add, lN_mul, lN_ltI, lN_leI, lN_eqI, lN_i, lcE, lcLe, lcLt, lN_div, q7, q12, q20, q99, q200, q999, q1e4, if_true, if_false, Nat.le_refl]
      refine d190 (own := false) hc ho (by omega) hm hp ?_
      try simp (disch := omega) only [hc.1.1.2.1.all, hc.1.1.2.2.1, hc.1.1.2.2.2.1.all, hc.1.1.2.2.2.all, hc.1.2, hc.2, wr_s, in_nI, clN, ti_z, ti_l, true_and, and_true, kI, zI, rI, kL, zL, rL, kR, zR, nnI, nnL, nnR, iL, iR, lI, lR, exi, exl, exv, eq_self, nI_add, nI_mul, nI_sub, nI_ltI, nI_leI, nI_eq, q0, q1, q2, q3, q4, q5, q6, q10, q100, br_Tr, br_Fa, iI_s, iI_n, bI_q0, bI_q1, or_true, true_or, not_true_eq_false, not_false_eq_true, nI_l, ge64, Nat.lt_irrefl, Nat.add_sub_cancel, Nat.not_lt_zero, lN_0, lN_1e4, lN_1e6, lN_1e3, lN_add, lN_mul, lN_ltI, lN_leI, lN_eqI, lN_i, lcE, lcLe, lcLt, lN_div, q7, q12, q20, q99, q200, q999, q1e4, if_true, if_false, Nat.le_refl]
      refine d52 hc.1.1 ?_
      try simp (disch := omega) only [hc.1.1.2.1.all, hc.1.1.2.2.1, hc.1.1.2.2.2.1.all, hc.1.1.2.2.2.all, hc.1.2, hc.2, wr_s, in_nI, clN, ti_z, ti_l, true_and, and_true, kI, zI, rI, kL, zL, rL, kR, zR, nnI, nnL, nnR, iL, iR, lI, lR, exi, exl, exv, eq_self, nI_add, nI_mul, nI_sub, nI_ltI, nI_leI, nI_eq, q0, q1, q2, q3, q4, q5, q6, q10, q100, br_Tr, br_Fa, iI_s, iI_n, bI_q0, bI_q1, or_true, true_or, not_true_eq_false, not_false_eq_true, nI_l, ge64, Nat.lt_irrefl, Nat.add_sub_cancel, Nat.not_lt_zero, lN_0, lN_1e4, lN_1e6, lN_1e3, lN_add, lN_mul, lN_ltI, lN_leI, lN_eqI, lN_i, lcE, lcLe, lcLt, lN_div, q7, q12, q20, q99, q200, q999, q1e4, if_true, if_false, Nat.le_refl]
      refine d190 (own := true) hc ho (by omega) hm hp ?_
      try simp (disch := omega) only [hc.1.1.2.1.all, hc.1.1.2.2.1, hc.1.1.2.2.2.1.all, hc.1.1.2.2.2.all, hc.1.2, hc.2, wr_s, in_nI, clN, ti_z, ti_l, true_and, and_true, kI, zI, rI, kL, zL, rL, kR, zR, nnI, nnL, nnR, iL, iR, lI, lR, exi, exl, exv, eq_self, nI_add, nI_mul, nI_sub, nI_ltI, nI_leI, nI_eq, q0, q1, q2, q3, q4, q5, q6, q10, q100, br_Tr, br_Fa, iI_s, iI_n, bI_q0, bI_q1, or_true, true_or, not_true_eq_false, not_false_eq_true, nI_l, ge64, Nat.lt_irrefl, Nat.add_sub_cancel, Nat.not_lt_zero, lN_0, lN_1e4, lN_1e6, lN_1e3, lN_add, lN_mul, lN_ltI, lN_leI, lN_eqI, lN_i, lcE, lcLe, lcLt, lN_div, q7, q12, q20, q99, q200, q999, q1e4, if_true, if_false, Nat.le_refl]
      rw [sX_all, sX_all]
      have h2 := sumT_in ha (o := o) (li := 0) (m := j + 1) (Nat.le_refl (nTh a))
      have h3 := sumO_in ha (o := o) (li := 0) (m := j + 1) (Nat.le_refl (nTh a))
      refine d69 (show sumN (pTh a o 0 (j + 1)) (nTh a) < _ by omega) (show sumN (pOw a o 0 (j + 1)) (nTh a) < _ by omega) ?_
      try simp (disch := omega) only [wr_s, in_nI, clN, ti_z, ti_l, true_and, and_true, kI, zI, rI, kL, zL, rL, kR, zR, nnI, nnL, nnR, iL, iR, lI, lR, exi, exl, exv, eq_self, nI_add, nI_mul, nI_sub, nI_ltI, nI_leI, nI_eq, q0, q1, q2, q3, q4, q5, q6, q10, q100, br_Tr, br_Fa, iI_s, iI_n, bI_q0, bI_q1, or_true, true_or, not_true_eq_false, not_false_eq_true, nI_l, ge64, Nat.lt_irrefl, Nat.add_sub_cancel, Nat.not_lt_zero, lN_0, lN_1e4, lN_1e6, lN_1e3, lN_add, lN_mul, lN_ltI, lN_leI, lN_eqI, lN_i, lcE, lcLe, lcLt, lN_div, q7, q12, q20, q99, q200, q999, q1e4, if_true, if_false, Nat.le_refl]
      exact q
  · have hB : oB a o = 1 := by simpa using h1
    refine up_to (P := fun j => (ax_Rw l G ax_h204 (ax_E G ax_h204 (fun x μ' => ∃ v : Int32, x = some (ax_i v) ∧ K v μ')) 57 [(0, ax_r (some 332)), (1, ax_i (nI o)), (2, ax_i (nI m)), (3, ax_l (lN (num a o j))), (5, ax_i (nI (j + 1)))] [] 0 0 μ)) m ?_ (fun j hj ih => ?_) 0 (Nat.zero_le _)
    · have hn := num_in a o m
      refine sg204_57 l G _ 332 _ _ _ _ _ ?_
      try simp (disch := omega) only [show ¬ (m + 1 ≤ m) by omega, wr_s, in_nI, clN, ti_z, ti_l, true_and, and_true, kI, zI, rI, kL, zL, rL, kR, zR, nnI, nnL, nnR, iL, iR, lI, lR, exi, exl, exv, eq_self, nI_add, nI_mul, nI_sub, nI_ltI, nI_leI, nI_eq, q0, q1, q2, q3, q4, q5, q6, q10, q100, br_Tr, br_Fa, iI_s, iI_n, bI_q0, bI_q1, or_true, true_or, not_true_eq_false, not_false_eq_true, nI_l, ge64, Nat.lt_irrefl, Nat.add_sub_cancel, Nat.not_lt_zero, lN_0, lN_1e4, lN_1e6, lN_1e3, lN_add, lN_mul, lN_ltI, lN_leI, lN_eqI, lN_i, lcE, lcLe, lcLt, lN_div, q7, q12, q20, q99, q200, q999, q1e4, if_true, if_false, Nat.le_refl]
      exact q
    · have hn := num_in a o j
      have h2 := sumT_in ha (o := o) (li := j) (m := j + 1) (Nat.le_refl (nTh a))
      have h3 := sumO_in ha (o := o) (li := j) (m := j + 1) (Nat.le_refl (nTh a))
      have hls : lsM a o (j + 1) = j := by unfold lsM; rw [if_pos hB]; omega
      have e : num a o (j + 1) = if sumN (pOw a o j (j + 1)) (nTh a) = 0 then num a o j else min 1000000 (num a o j * sumN (pTh a o j (j + 1)) (nTh a) / sumN (pOw a o j (j + 1)) (nTh a)) := by
        show (if oB a o = 1 then _ else _) = _
        rw [if_pos hB]
        unfold smT smO
        rw [hls]
      have eT : sX a o j (j + 1) (2 ^ nTh a - 1) false (nTh a) = sumN (pTh a o j (j + 1)) (nTh a) := sX_all
      have eO : sX a o j (j + 1) (2 ^ nTh a - 1) true (nTh a) = sumN (pOw a o j (j + 1)) (nTh a) := sX_all
      rw [e] at ih
      refine sg204_57 l G _ 332 _ _ _ _ _ ?_
      try simp (disch := omega) only [nI_sub1, hc.1.1.2.1.all, hc.1.1.2.2.1, hc.1.1.2.2.2.1.all, hc.1.1.2.2.2.all, hc.1.2, hc.2, show j + 1 ≤ m by omega, wr_s, in_nI, clN, ti_z, ti_l, true_and, and_true, kI, zI, rI, kL, zL, rL, kR, zR, nnI, nnL, nnR, iL, iR, lI, lR, exi, exl, exv, eq_self, nI_add, nI_mul, nI_ltI, nI_leI, nI_eq, q0, q1, q2, q3, q4, q5, q6, q10, q100, br_Tr, br_Fa, iI_s, iI_n, bI_q0, bI_q1, or_true, true_or, not_true_eq_false, not_false_eq_true, nI_l, ge64, Nat.lt_irrefl, Nat.add_sub_cancel, Nat.not_lt_zero, lN_0, lN_1e4, lN_1e6, lN_1e3, lN_add, lN_mul, lN_ltI, lN_leI, lN_eqI, lN_i, lcE, lcLe, lcLt, lN_div, q7, q12, q20, q99, q200, q999, q1e4, if_true, if_false, Nat.le_refl]
      refine d52 hc.1.1 ?_
      try simp (disch := omega) only [hc.1.1.2.1.all, hc.1.1.2.2.1, hc.1.1.2.2.2.1.all, hc.1.1.2.2.2.all, hc.1.2, hc.2, wr_s, in_nI, clN, ti_z, ti_l, true_and, and_true, kI, zI, rI, kL, zL, rL, kR, zR, nnI, nnL, nnR, iL, iR, lI, lR, exi, exl, exv, eq_self, nI_add, nI_mul, nI_sub, nI_ltI, nI_leI, nI_eq, q0, q1, q2, q3, q4, q5, q6, q10, q100, br_Tr, br_Fa, iI_s, iI_n, bI_q0, bI_q1, or_true, true_or, not_true_eq_false, not_false_eq_true, nI_l, ge64, Nat.lt_irrefl, Nat.add_sub_cancel, Nat.not_lt_zero, lN_0, lN_1e4, lN_1e6, lN_1e3, lN_add, lN_mul, lN_ltI, lN_leI, lN_eqI, lN_i, lcE, lcLe, lcLt, lN_div, q7, q12, q20, q99, q200, q999, q1e4, if_true, if_false, Nat.le_refl]
      refine d190 (own := true) hc ho (by omega) (by omega) hp ?_
      rw [eO]
      have hpr : num a o j * sumN (pTh a o j (j + 1)) (nTh a) ≤ 1000000 * 237125037600 := Nat.mul_le_mul hn h2
      generalize sumN (pTh a o j (j + 1)) (nTh a) = x at *
      generalize sumN (pOw a o j (j + 1)) (nTh a) = y at *
      have hd : num a o j * x / y < 2 ^ 63 := Nat.lt_of_le_of_lt (Nat.div_le_self _ _) (by omega)
      try simp (disch := omega) only [hc.1.1.2.1.all, hc.1.1.2.2.1, hc.1.1.2.2.2.1.all, hc.1.1.2.2.2.all, hc.1.2, hc.2, wr_s, in_nI, clN, ti_z, ti_l, true_and, and_true, kI, zI, rI, kL, zL, rL, kR, zR, nnI, nnL, nnR, iL, iR, lI, lR, exi, exl, exv, eq_self, nI_add, nI_mul, nI_sub, nI_ltI, nI_leI, nI_eq, q0, q1, q2, q3, q4, q5, q6, q10, q100, br_Tr, br_Fa, iI_s, iI_n, bI_q0, bI_q1, or_true, true_or, not_true_eq_false, not_false_eq_true, nI_l, ge64, Nat.lt_irrefl, Nat.add_sub_cancel, Nat.not_lt_zero, lN_0, lN_1e4, lN_1e6, lN_1e3, lN_add, lN_mul, lN_ltI, lN_leI, lN_eqI, lN_i, lcE, lcLe, lcLt, lN_div, q7, q12, q20, q99, q200, q999, q1e4, if_true, if_false, Nat.le_refl]
      refine ax_brc (fun h4 => ?_) (fun h4 => ?_)
      · rw [if_pos h4] at ih; exact ih
      · rw [if_neg h4] at ih
        refine d52 hc.1.1 ?_
        try simp (disch := omega) only [hc.1.1.2.1.all, hc.1.1.2.2.1, hc.1.1.2.2.2.1.all, hc.1.1.2.2.2.all, hc.1.2, hc.2, wr_s, in_nI, clN, ti_z, ti_l, true_and, and_true, kI, zI, rI, kL, zL, rL, kR, zR, nnI, nnL, nnR, iL, iR, lI, lR, exi, exl, exv, eq_self, nI_add, nI_mul, nI_sub, nI_ltI, nI_leI, nI_eq, q0, q1, q2, q3, q4, q5, q6, q10, q100, br_Tr, br_Fa, iI_s, iI_n, bI_q0, bI_q1, or_true, true_or, not_true_eq_false, not_false_eq_true, nI_l, ge64, Nat.lt_irrefl, Nat.add_sub_cancel, Nat.not_lt_zero, lN_0, lN_1e4, lN_1e6, lN_1e3, lN_add, lN_mul, lN_ltI, lN_leI, lN_eqI, lN_i, lcE, lcLe, lcLt, lN_div, q7, q12, q20, q99, q200, q999, q1e4, if_true, if_false, Nat.le_refl]
        refine d190 (own := false) hc ho (by omega) (by omega) hp ?_
        rw [eT]
        try simp (disch := omega) only [wr_s, in_nI, clN, ti_z, ti_l, true_and, and_true, kI, zI, rI, kL, zL, rL, kR, zR, nnI, nnL, nnR, iL, iR, lI, lR, exi, exl, exv, eq_self, nI_add, nI_mul, nI_sub, nI_ltI, nI_leI, nI_eq, q0, q1, q2, q3, q4, q5, q6, q10, q100, br_Tr, br_Fa, iI_s, iI_n, bI_q0, bI_q1, or_true, true_or, not_true_eq_false, not_false_eq_true, nI_l, ge64, Nat.lt_irrefl, Nat.add_sub_cancel, Nat.not_lt_zero, lN_0, lN_1e4, lN_1e6, lN_1e3, lN_add, lN_mul, lN_ltI, lN_leI, lN_eqI, lN_i, lcE, lcLe, lcLt, lN_div, q7, q12, q20, q99, q200, q999, q1e4, if_true, if_false, Nat.le_refl]
        refine ⟨h4, ax_brc (fun h5 => ?_) (fun h5 => ?_)⟩
        · rw [Nat.min_eq_right h5] at ih; exact ih
        · rw [Nat.min_eq_left (by omega)] at ih; exact ih
theorem d191 {h m : Nat} {K : Int32 → ax_M → Prop} (hc : MT μ N a) (hh : h < nHo a) (hm : m < nMo a) (q : K (nI (tru a h m)) μ) : ax_CI l G 191 [ax_r (some 332), ax_i (nI h), ax_i (nI m)] μ K := by
  have hb := hc.bd
  have ha := hc.1.1
  refine ax_Ct.of (by decide) (Nat.le_of_ble_eq_true rfl) (sg191_0 l G _ 332 _ _ _ ?_)
  try simp (disch := omega) only [wr_s, in_nI, clN, ti_z, ti_l, true_and, and_true, kI, zI, rI, kL, zL, rL, kR, zR, nnI, nnL, nnR, iL, iR, lI, lR, exi, exl, exv, eq_self, nI_add, nI_mul, nI_sub, nI_ltI, nI_leI, nI_eq, q0, q1, q2, q3, q4, q5, q6, q10, q100, br_Tr, br_Fa, iI_s, iI_n, bI_q0, bI_q1, or_true, true_or, not_true_eq_false, not_false_eq_true, nI_l, ge64, Nat.lt_irrefl, Nat.add_sub_cancel, Nat.not_lt_zero, lN_0, lN_1e4, lN_1e6, lN_1e3, lN_add, lN_mul, lN_ltI, lN_leI, lN_eqI, lN_i, lcE, lcLe, lcLt, lN_div, q7, q12, q20, q99, q200, q999, q1e4, if_true, if_false, Nat.le_refl]
  refine up_to (P := fun g => (ax_Rw l G ax_h191 (ax_E G ax_h191 (fun x μ' => ∃ v : Int32, x = some (ax_i v) ∧ K v μ')) 5 [(0, ax_r (some 332)), (1, ax_i (nI h)), (2, ax_i (nI m)), (3, ax_i (nI (sumN (tru1 a h m) g))), (4, ax_i (nI g))] [] 0 0 μ)) (nGr a) ?_ (fun g hg ih => ?_) 0 (Nat.zero_le _)
  · refine sg191_5 l G _ 332 _ _ _ _ _ ?_
    try simp (disch := omega) only [hc.1.2.1.all, hc.1.2.2.1, hc.1.2.2.2.1.all, hc.1.2.2.2.all, hc.2, wr_s, in_nI, clN, ti_z, ti_l, true_and, and_true, kI, zI, rI, kL, zL, rL, kR, zR, nnI, nnL, nnR, iL, iR, lI, lR, exi, exl, exv, eq_self, nI_add, nI_mul, nI_sub, nI_ltI, nI_leI, nI_eq, q0, q1, q2, q3, q4, q5, q6, q10, q100, br_Tr, br_Fa, iI_s, iI_n, bI_q0, bI_q1, or_true, true_or, not_true_eq_false, not_false_eq_true, nI_l, ge64, Nat.lt_irrefl, Nat.add_sub_cancel, Nat.not_lt_zero, lN_0, lN_1e4, lN_1e6, lN_1e3, lN_add, lN_mul, lN_ltI, lN_leI, lN_eqI, lN_i, lcE, lcLe, lcLt, lN_div, q7, q12, q20, q99, q200, q999, q1e4, if_true, if_false, Nat.le_refl]
    exact q
  · have hw := (ha.hw hh).2.2 g (by omega)
    rw [sumN_s] at ih
    unfold tru1 at ih
    refine sg191_5 l G _ 332 _ _ _ _ _ ?_
    try simp (disch := omega) only [hc.1.2.1.all, hc.1.2.2.1, hc.1.2.2.2.1.all, hc.1.2.2.2.all, hc.2, hg, wr_s, in_nI, clN, ti_z, ti_l, true_and, and_true, kI, zI, rI, kL, zL, rL, kR, zR, nnI, nnL, nnR, iL, iR, lI, lR, exi, exl, exv, eq_self, nI_add, nI_mul, nI_sub, nI_ltI, nI_leI, nI_eq, q0, q1, q2, q3, q4, q5, q6, q10, q100, br_Tr, br_Fa, iI_s, iI_n, bI_q0, bI_q1, or_true, true_or, not_true_eq_false, not_false_eq_true, nI_l, ge64, Nat.lt_irrefl, Nat.add_sub_cancel, Nat.not_lt_zero, lN_0, lN_1e4, lN_1e6, lN_1e3, lN_add, lN_mul, lN_ltI, lN_leI, lN_eqI, lN_i, lcE, lcLe, lcLt, lN_div, q7, q12, q20, q99, q200, q999, q1e4, if_true, if_false, Nat.le_refl]
    refine d65 hc.1 hh hg ?_
    try simp (disch := omega) only [hc.1.2.1.all, hc.1.2.2.1, hc.1.2.2.2.1.all, hc.1.2.2.2.all, hc.2, wr_s, in_nI, clN, ti_z, ti_l, true_and, and_true, kI, zI, rI, kL, zL, rL, kR, zR, nnI, nnL, nnR, iL, iR, lI, lR, exi, exl, exv, eq_self, nI_add, nI_mul, nI_sub, nI_ltI, nI_leI, nI_eq, q0, q1, q2, q3, q4, q5, q6, q10, q100, br_Tr, br_Fa, iI_s, iI_n, bI_q0, bI_q1, or_true, true_or, not_true_eq_false, not_false_eq_true, nI_l, ge64, Nat.lt_irrefl, Nat.add_sub_cancel, Nat.not_lt_zero, lN_0, lN_1e4, lN_1e6, lN_1e3, lN_add, lN_mul, lN_ltI, lN_leI, lN_eqI, lN_i, lcE, lcLe, lcLt, lN_div, q7, q12, q20, q99, q200, q999, q1e4, if_true, if_false, Nat.le_refl]
    refine ax_brc (fun h1 => ?_) (fun h1 => ?_)
    · have h2 : hW a h g = 0 := by have := of_decide_eq_false h1; omega
      rw [if_pos h2] at ih
      exact ih
    · have h2 : 0 < hW a h g := Nat.pos_of_ne_zero (by simpa using h1)
      rw [if_neg (by omega)] at ih
      refine d179 hc hw (by omega) hm ?_
      try simp (disch := omega) only [hc.1.2.1.all, hc.1.2.2.1, hc.1.2.2.2.1.all, hc.1.2.2.2.all, hc.2, wr_s, in_nI, clN, ti_z, ti_l, true_and, and_true, kI, zI, rI, kL, zL, rL, kR, zR, nnI, nnL, nnR, iL, iR, lI, lR, exi, exl, exv, eq_self, nI_add, nI_mul, nI_sub, nI_ltI, nI_leI, nI_eq, q0, q1, q2, q3, q4, q5, q6, q10, q100, br_Tr, br_Fa, iI_s, iI_n, bI_q0, bI_q1, or_true, true_or, not_true_eq_false, not_false_eq_true, nI_l, ge64, Nat.lt_irrefl, Nat.add_sub_cancel, Nat.not_lt_zero, lN_0, lN_1e4, lN_1e6, lN_1e3, lN_add, lN_mul, lN_ltI, lN_leI, lN_eqI, lN_i, lcE, lcLe, lcLt, lN_div, q7, q12, q20, q99, q200, q999, q1e4, if_true, if_false, Nat.le_refl]
      cases hbs : best a g (hW a h g) m with
      | none =>
        rw [hbs] at ih
        exact ax_brt (by decide +kernel) ih
      | some b =>
        rw [hbs] at ih
        have hbi := best_in ha hw hbs
        refine ax_brf (fun e => neg2_ne (show b.1 < 2 ^ 31 by omega) e.symm) ?_
        try simp (disch := omega) only [hc.1.2.1.all, hc.1.2.2.1, hc.1.2.2.2.1.all, hc.1.2.2.2.all, hc.2, show e4 (some b) = nI b.1 from rfl, wr_s, in_nI, clN, ti_z, ti_l, true_and, and_true, kI, zI, rI, kL, zL, rL, kR, zR, nnI, nnL, nnR, iL, iR, lI, lR, exi, exl, exv, eq_self, nI_add, nI_mul, nI_sub, nI_ltI, nI_leI, nI_eq, q0, q1, q2, q3, q4, q5, q6, q10, q100, br_Tr, br_Fa, iI_s, iI_n, bI_q0, bI_q1, or_true, true_or, not_true_eq_false, not_false_eq_true, nI_l, ge64, Nat.lt_irrefl, Nat.add_sub_cancel, Nat.not_lt_zero, lN_0, lN_1e4, lN_1e6, lN_1e3, lN_add, lN_mul, lN_ltI, lN_leI, lN_eqI, lN_i, lcE, lcLe, lcLt, lN_div, q7, q12, q20, q99, q200, q999, q1e4, if_true, if_false, Nat.le_refl]
        refine d155 hc hw hbi.1 hm ?_
        try simp (disch := omega) only [hc.1.2.1.all, hc.1.2.2.1, hc.1.2.2.2.1.all, hc.1.2.2.2.all, hc.2, wr_s, in_nI, clN, ti_z, ti_l, true_and, and_true, kI, zI, rI, kL, zL, rL, kR, zR, nnI, nnL, nnR, iL, iR, lI, lR, exi, exl, exv, eq_self, nI_add, nI_mul, nI_sub, nI_ltI, nI_leI, nI_eq, q0, q1, q2, q3, q4, q5, q6, q10, q100, br_Tr, br_Fa, iI_s, iI_n, bI_q0, bI_q1, or_true, true_or, not_true_eq_false, not_false_eq_true, nI_l, ge64, Nat.lt_irrefl, Nat.add_sub_cancel, Nat.not_lt_zero, lN_0, lN_1e4, lN_1e6, lN_1e3, lN_add, lN_mul, lN_ltI, lN_leI, lN_eqI, lN_i, lcE, lcLe, lcLt, lN_div, q7, q12, q20, q99, q200, q999, q1e4, if_true, if_false, Nat.le_refl]
        refine d50 ?_
        try simp (disch := omega) only [hc.1.2.1.all, hc.1.2.2.1, hc.1.2.2.2.1.all, hc.1.2.2.2.all, hc.2, wr_s, in_nI, clN, ti_z, ti_l, true_and, and_true, kI, zI, rI, kL, zL, rL, kR, zR, nnI, nnL, nnR, iL, iR, lI, lR, exi, exl, exv, eq_self, nI_add, nI_mul, nI_sub, nI_ltI, nI_leI, nI_eq, q0, q1, q2, q3, q4, q5, q6, q10, q100, br_Tr, br_Fa, iI_s, iI_n, bI_q0, bI_q1, or_true, true_or, not_true_eq_false, not_false_eq_true, nI_l, ge64, Nat.lt_irrefl, Nat.add_sub_cancel, Nat.not_lt_zero, lN_0, lN_1e4, lN_1e6, lN_1e3, lN_add, lN_mul, lN_ltI, lN_leI, lN_eqI, lN_i, lcE, lcLe, lcLt, lN_div, q7, q12, q20, q99, q200, q999, q1e4, if_true, if_false, Nat.le_refl]
        rw [← hbi.2.2.2.1]
        exact ih
theorem d203 {h m : Nat} {K : Int32 → ax_M → Prop} (hc : MT μ N a) (hh : h < nHo a) (hm : m < nMo a) (q : K (nI (liv a h m)) μ) : ax_CI l G 203 [ax_r (some 332), ax_i (nI h), ax_i (nI m)] μ K := by
  have hb := hc.bd
  have h1 := tru_in hc.1.1 (m := m) hh
  have h2 := tru_in hc.1.1 (m := 0) hh
  refine ax_Ct.of (by decide) (Nat.le_of_ble_eq_true rfl) (sg203_0 l G _ 332 _ _ _ ?_)
  try simp (disch := omega) only [hc.1.2.1.all, hc.1.2.2.1, hc.1.2.2.2.1.all, hc.1.2.2.2.all, hc.2, wr_s, in_nI, clN, ti_z, ti_l, true_and, and_true, kI, zI, rI, kL, zL, rL, kR, zR, nnI, nnL, nnR, iL, iR, lI, lR, exi, exl, exv, eq_self, nI_add, nI_mul, nI_sub, nI_ltI, nI_leI, nI_eq, q0, q1, q2, q3, q4, q5, q6, q10, q100, br_Tr, br_Fa, iI_s, iI_n, bI_q0, bI_q1, or_true, true_or, not_true_eq_false, not_false_eq_true, nI_l, ge64, Nat.lt_irrefl, Nat.add_sub_cancel, Nat.not_lt_zero, lN_0, lN_1e4, lN_1e6, lN_1e3, lN_add, lN_mul, lN_ltI, lN_leI, lN_eqI, lN_i, lcE, lcLe, lcLt, lN_div, q7, q12, q20, q99, q200, q999, q1e4, if_true, if_false, Nat.le_refl]
  refine d191 hc hh hm ?_
  try simp (disch := omega) only [hc.1.2.1.all, hc.1.2.2.1, hc.1.2.2.2.1.all, hc.1.2.2.2.all, hc.2, wr_s, in_nI, clN, ti_z, ti_l, true_and, and_true, kI, zI, rI, kL, zL, rL, kR, zR, nnI, nnL, nnR, iL, iR, lI, lR, exi, exl, exv, eq_self, nI_add, nI_mul, nI_sub, nI_ltI, nI_leI, nI_eq, q0, q1, q2, q3, q4, q5, q6, q10, q100, br_Tr, br_Fa, iI_s, iI_n, bI_q0, bI_q1, or_true, true_or, not_true_eq_false, not_false_eq_true, nI_l, ge64, Nat.lt_irrefl, Nat.add_sub_cancel, Nat.not_lt_zero, lN_0, lN_1e4, lN_1e6, lN_1e3, lN_add, lN_mul, lN_ltI, lN_leI, lN_eqI, lN_i, lcE, lcLe, lcLt, lN_div, q7, q12, q20, q99, q200, q999, q1e4, if_true, if_false, Nat.le_refl]
  refine d191 hc hh (by omega) ?_
  try simp (disch := omega) only [hc.1.2.1.all, hc.1.2.2.1, hc.1.2.2.2.1.all, hc.1.2.2.2.all, hc.2, wr_s, in_nI, clN, ti_z, ti_l, true_and, and_true, kI, zI, rI, kL, zL, rL, kR, zR, nnI, nnL, nnR, iL, iR, lI, lR, exi, exl, exv, eq_self, nI_add, nI_mul, nI_sub, nI_ltI, nI_leI, nI_eq, q0, q1, q2, q3, q4, q5, q6, q10, q100, br_Tr, br_Fa, iI_s, iI_n, bI_q0, bI_q1, or_true, true_or, not_true_eq_false, not_false_eq_true, nI_l, ge64, Nat.lt_irrefl, Nat.add_sub_cancel, Nat.not_lt_zero, lN_0, lN_1e4, lN_1e6, lN_1e3, lN_add, lN_mul, lN_ltI, lN_leI, lN_eqI, lN_i, lcE, lcLe, lcLt, lN_div, q7, q12, q20, q99, q200, q999, q1e4, if_true, if_false, Nat.le_refl]
  refine d69 (by omega) (by omega) ?_
  try simp (disch := omega) only [wr_s, in_nI, clN, ti_z, ti_l, true_and, and_true, kI, zI, rI, kL, zL, rL, kR, zR, nnI, nnL, nnR, iL, iR, lI, lR, exi, exl, exv, eq_self, nI_add, nI_mul, nI_sub, nI_ltI, nI_leI, nI_eq, q0, q1, q2, q3, q4, q5, q6, q10, q100, br_Tr, br_Fa, iI_s, iI_n, bI_q0, bI_q1, or_true, true_or, not_true_eq_false, not_false_eq_true, nI_l, ge64, Nat.lt_irrefl, Nat.add_sub_cancel, Nat.not_lt_zero, lN_0, lN_1e4, lN_1e6, lN_1e3, lN_add, lN_mul, lN_ltI, lN_leI, lN_eqI, lN_i, lcE, lcLe, lcLt, lN_div, q7, q12, q20, q99, q200, q999, q1e4, if_true, if_false, Nat.le_refl]
  exact q
theorem d107 {h b p : Nat} {K : Int32 → ax_M → Prop} (hc : MB μ N a) (hh : h < nHo a) (hm : b < nMo a) (hp : p < nMo a) (he : ∀ g t, g < nGr a → (buy a h g b).1 = some t → lst a t p = p) (q : K (nI (cst a h b p)) μ) : ax_CI l G 107 [ax_r (some 332), ax_i (nI h), ax_i (nI b), ax_i (nI p)] μ K := by
  have hb := hc.bd
  have ha := hc.1.1.1
  refine ax_Ct.of (by decide) (Nat.le_of_ble_eq_true rfl) (sg107_0 l G _ 332 _ _ _ _ ?_)
  try simp (disch := omega) only [wr_s, in_nI, clN, ti_z, ti_l, true_and, and_true, kI, zI, rI, kL, zL, rL, kR, zR, nnI, nnL, nnR, iL, iR, lI, lR, exi, exl, exv, eq_self, nI_add, nI_mul, nI_sub, nI_ltI, nI_leI, nI_eq, q0, q1, q2, q3, q4, q5, q6, q10, q100, br_Tr, br_Fa, iI_s, iI_n, bI_q0, bI_q1, or_true, true_or, not_true_eq_false, not_false_eq_true, nI_l, ge64, Nat.lt_irrefl, Nat.add_sub_cancel, Nat.not_lt_zero, lN_0, lN_1e4, lN_1e6, lN_1e3, lN_add, lN_mul, lN_ltI, lN_leI, lN_eqI, lN_i, lcE, lcLe, lcLt, lN_div, q7, q12, q20, q99, q200, q999, q1e4, if_true, if_false, Nat.le_refl]
  refine up_to (P := fun g => (ax_Rw l G ax_h107 (ax_E G ax_h107 (fun x μ' => ∃ v : Int32, x = some (ax_i v) ∧ K v μ')) 6 [(0, ax_r (some 332)), (1, ax_i (nI h)), (2, ax_i (nI b)), (3, ax_i (nI p)), (4, ax_i (nI (sumN (cst1 a h b p) g))), (5, ax_i (nI g))] [] 0 0 μ)) (nGr a) ?_ (fun g hg ih => ?_) 0 (Nat.zero_le _)
  · refine sg107_6 l G _ 332 _ _ _ _ _ _ ?_
    try simp (disch := omega) only [hc.1.1.2.1.all, hc.1.1.2.2.1, hc.1.1.2.2.2.1.all, hc.1.1.2.2.2.all, hc.1.2, hc.2, wr_s, in_nI, clN, ti_z, ti_l, true_and, and_true, kI, zI, rI, kL, zL, rL, kR, zR, nnI, nnL, nnR, iL, iR, lI, lR, exi, exl, exv, eq_self, nI_add, nI_mul, nI_sub, nI_ltI, nI_leI, nI_eq, q0, q1, q2, q3, q4, q5, q6, q10, q100, br_Tr, br_Fa, iI_s, iI_n, bI_q0, bI_q1, or_true, true_or, not_true_eq_false, not_false_eq_true, nI_l, ge64, Nat.lt_irrefl, Nat.add_sub_cancel, Nat.not_lt_zero, lN_0, lN_1e4, lN_1e6, lN_1e3, lN_add, lN_mul, lN_ltI, lN_leI, lN_eqI, lN_i, lcE, lcLe, lcLt, lN_div, q7, q12, q20, q99, q200, q999, q1e4, if_true, if_false, Nat.le_refl]
    exact q
  · have hbi := (buy_in ha hh (show g < 4 by omega) b).1
    rw [sumN_s] at ih
    unfold cst1 at ih
    refine sg107_6 l G _ 332 _ _ _ _ _ _ ?_
    try simp (disch := omega) only [hc.1.1.2.1.all, hc.1.1.2.2.1, hc.1.1.2.2.2.1.all, hc.1.1.2.2.2.all, hc.1.2, hc.2, hg, wr_s, in_nI, clN, ti_z, ti_l, true_and, and_true, kI, zI, rI, kL, zL, rL, kR, zR, nnI, nnL, nnR, iL, iR, lI, lR, exi, exl, exv, eq_self, nI_add, nI_mul, nI_sub, nI_ltI, nI_leI, nI_eq, q0, q1, q2, q3, q4, q5, q6, q10, q100, br_Tr, br_Fa, iI_s, iI_n, bI_q0, bI_q1, or_true, true_or, not_true_eq_false, not_false_eq_true, nI_l, ge64, Nat.lt_irrefl, Nat.add_sub_cancel, Nat.not_lt_zero, lN_0, lN_1e4, lN_1e6, lN_1e3, lN_add, lN_mul, lN_ltI, lN_leI, lN_eqI, lN_i, lcE, lcLe, lcLt, lN_div, q7, q12, q20, q99, q200, q999, q1e4, if_true, if_false, Nat.le_refl]
    refine d65 hc.1.1 hh hg ?_
    try simp (disch := omega) only [hc.1.1.2.1.all, hc.1.1.2.2.1, hc.1.1.2.2.2.1.all, hc.1.1.2.2.2.all, hc.1.2, hc.2, wr_s, in_nI, clN, ti_z, ti_l, true_and, and_true, kI, zI, rI, kL, zL, rL, kR, zR, nnI, nnL, nnR, iL, iR, lI, lR, exi, exl, exv, eq_self, nI_add, nI_mul, nI_sub, nI_ltI, nI_leI, nI_eq, q0, q1, q2, q3, q4, q5, q6, q10, q100, br_Tr, br_Fa, iI_s, iI_n, bI_q0, bI_q1, or_true, true_or, not_true_eq_false, not_false_eq_true, nI_l, ge64, Nat.lt_irrefl, Nat.add_sub_cancel, Nat.not_lt_zero, lN_0, lN_1e4, lN_1e6, lN_1e3, lN_add, lN_mul, lN_ltI, lN_leI, lN_eqI, lN_i, lcE, lcLe, lcLt, lN_div, q7, q12, q20, q99, q200, q999, q1e4, if_true, if_false, Nat.le_refl]
    refine ax_brc (fun h1 => ?_) (fun h1 => ?_)
    · have h2 : hW a h g = 0 := by have := of_decide_eq_false h1; omega
      rw [buy_w0 h2] at ih
      exact ih
    · have h2 : 0 < hW a h g := Nat.pos_of_ne_zero (by simpa using h1)
      refine d72 ?_
      try simp (disch := omega) only [hc.1.1.2.1.all, hc.1.1.2.2.1, hc.1.1.2.2.2.1.all, hc.1.1.2.2.2.all, hc.1.2, hc.2, wr_s, in_nI, clN, ti_z, ti_l, true_and, and_true, kI, zI, rI, kL, zL, rL, kR, zR, nnI, nnL, nnR, iL, iR, lI, lR, exi, exl, exv, eq_self, nI_add, nI_mul, nI_sub, nI_ltI, nI_leI, nI_eq, q0, q1, q2, q3, q4, q5, q6, q10, q100, br_Tr, br_Fa, iI_s, iI_n, bI_q0, bI_q1, or_true, true_or, not_true_eq_false, not_false_eq_true, nI_l, ge64, Nat.lt_irrefl, Nat.add_sub_cancel, Nat.not_lt_zero, lN_0, lN_1e4, lN_1e6, lN_1e3, lN_add, lN_mul, lN_ltI, lN_leI, lN_eqI, lN_i, lcE, lcLe, lcLt, lN_div, q7, q12, q20, q99, q200, q999, q1e4, if_true, if_false, Nat.le_refl]
      cases hbj : (buy a h g b).1 with
      | none =>
        rw [hbj] at ih
        exact ax_brt (by decide +kernel) ih
      | some t =>
        have hbt := hbi t hbj
        rw [hbj] at ih
        simp only [he g t hg hbj] at ih
        refine ax_brf (fun e => neg2_ne (show t < 2 ^ 31 by omega) e.symm) ?_
        try simp (disch := omega) only [hc.1.1.2.1.all, hc.1.1.2.2.1, hc.1.1.2.2.2.1.all, hc.1.1.2.2.2.all, hc.1.2, hc.2, enc_some, wr_s, in_nI, clN, ti_z, ti_l, true_and, and_true, kI, zI, rI, kL, zL, rL, kR, zR, nnI, nnL, nnR, iL, iR, lI, lR, exi, exl, exv, eq_self, nI_add, nI_mul, nI_sub, nI_ltI, nI_leI, nI_eq, q0, q1, q2, q3, q4, q5, q6, q10, q100, br_Tr, br_Fa, iI_s, iI_n, bI_q0, bI_q1, or_true, true_or, not_true_eq_false, not_false_eq_true, nI_l, ge64, Nat.lt_irrefl, Nat.add_sub_cancel, Nat.not_lt_zero, lN_0, lN_1e4, lN_1e6, lN_1e3, lN_add, lN_mul, lN_ltI, lN_leI, lN_eqI, lN_i, lcE, lcLe, lcLt, lN_div, q7, q12, q20, q99, q200, q999, q1e4, if_true, if_false, Nat.le_refl]
        refine d72 ?_
        try simp (disch := omega) only [hc.1.1.2.1.all, hc.1.1.2.2.1, hc.1.1.2.2.2.1.all, hc.1.1.2.2.2.all, hc.1.2, hc.2, wr_s, in_nI, clN, ti_z, ti_l, true_and, and_true, kI, zI, rI, kL, zL, rL, kR, zR, nnI, nnL, nnR, iL, iR, lI, lR, exi, exl, exv, eq_self, nI_add, nI_mul, nI_sub, nI_ltI, nI_leI, nI_eq, q0, q1, q2, q3, q4, q5, q6, q10, q100, br_Tr, br_Fa, iI_s, iI_n, bI_q0, bI_q1, or_true, true_or, not_true_eq_false, not_false_eq_true, nI_l, ge64, Nat.lt_irrefl, Nat.add_sub_cancel, Nat.not_lt_zero, lN_0, lN_1e4, lN_1e6, lN_1e3, lN_add, lN_mul, lN_ltI, lN_leI, lN_eqI, lN_i, lcE, lcLe, lcLt, lN_div, q7, q12, q20, q99, q200, q999, q1e4, if_true, if_false, Nat.le_refl]
        refine d50 ?_
        try simp (disch := omega) only [hc.1.1.2.1.all, hc.1.1.2.2.1, hc.1.1.2.2.2.1.all, hc.1.1.2.2.2.all, hc.1.2, hc.2, wr_s, in_nI, clN, ti_z, ti_l, true_and, and_true, kI, zI, rI, kL, zL, rL, kR, zR, nnI, nnL, nnR, iL, iR, lI, lR, exi, exl, exv, eq_self, nI_add, nI_mul, nI_sub, nI_ltI, nI_leI, nI_eq, q0, q1, q2, q3, q4, q5, q6, q10, q100, br_Tr, br_Fa, iI_s, iI_n, bI_q0, bI_q1, or_true, true_or, not_true_eq_false, not_false_eq_true, nI_l, ge64, Nat.lt_irrefl, Nat.add_sub_cancel, Nat.not_lt_zero, lN_0, lN_1e4, lN_1e6, lN_1e3, lN_add, lN_mul, lN_ltI, lN_leI, lN_eqI, lN_i, lcE, lcLe, lcLt, lN_div, q7, q12, q20, q99, q200, q999, q1e4, if_true, if_false, Nat.le_refl]
        exact ih
end F3
