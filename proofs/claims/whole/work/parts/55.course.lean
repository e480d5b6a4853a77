/-! the course's calls -/
theorem lN_0 : (0 : Int64) = lN 0 := by decide +kernel
theorem lN_1e4 : (10000 : Int64) = lN 10000 := by decide +kernel
theorem lN_1e6 : (1000000 : Int64) = lN 1000000 := by decide +kernel
theorem lN_1e3 : (1000 : Int64) = lN 1000 := by decide +kernel
def rat (x y : Nat) : Nat := if y = 0 then 10000 else min 1000000 (x * 10000 / y)
theorem rat_le (x y : Nat) : rat x y ≤ 1000000 := by unfold rat; split <;> omega
def e4 (o : Option (Nat × Nat)) : Int32 := match o with
  | none => -2
  | some b => nI b.1
def e5 (o : Option (Nat × Nat)) : Int32 := match o with
  | none => 0
  | some b => nI b.2
theorem e4_enc (o : Option (Nat × Nat)) : e4 o = enc (o.map Prod.fst) := by cases o <;> rfl
theorem bstK_in {a : Ld} (ha : LdOk a) {g w m : Nat} (hw : w ≤ 99) : ∀ (n : Nat), n ≤ nTh a → ∀ b, bstK a g w m n = some b → b.1 < n ∧ tG a b.1 = g ∧ Tr a b.1 m = true ∧ b.2 = pcs a w b.1 m * Pr a b.1 m ∧ b.2 ≤ 98901
  | 0, _, b, h => by cases h
  | n + 1, hn, b, h => by
    unfold bstK at h
    have ih := bstK_in ha (g := g) (m := m) hw n (by omega)
    have hp : pcs a w n m * Pr a n m ≤ 98901 := Nat.mul_le_mul (pcs_in ha (by omega) hw m) (stt_in ha (by omega) m).2.2.2
    split at h
    · rename_i hc
      cases hb : bstK a g w m n with
      | none =>
        rw [hb] at h
        cases h
        exact ⟨by omega, hc.1, hc.2, rfl, hp⟩
      | some b' =>
        rw [hb] at h
        have ih := ih b' hb
        simp only at h
        split at h
        · cases h
          exact ⟨by omega, hc.1, hc.2, rfl, hp⟩
        · cases h
          exact ⟨by omega, ih.2⟩
    · have ih := ih b h
      exact ⟨by omega, ih.2⟩
section C2
variable {l : Launch} {G : ax_G} {μ : ax_M} {c L : Nat} {a : Ld}
theorem d1n {x y : Nat} {z : Int64} {K : Int64 → ax_M → Prop} (hx : x < 2 ^ 63) (hy : y < 2 ^ 63) (h0 : 0 < y) (q : K (lN (x / y)) μ) : ax_CL l G 1 [ax_l (lN x), ax_l (lN y), ax_l z] μ K := by
  refine d1 (fun _ => by rw [lN_div hx hy]; exact q) (fun h => absurd ?_ h)
  rw [lN_0, lN_ltI (by omega) hy]
  exact h0
theorem d1z {x z : Int64} {K : Int64 → ax_M → Prop} (q : K z μ) : ax_CL l G 1 [ax_l x, ax_l (lN 0), ax_l z] μ K :=
  d1 (fun h => absurd h (by decide +kernel)) (fun _ => q)
theorem d85 {x y : Nat} {K : Int32 → ax_M → Prop} (hx : x < 2 ^ 48) (hy : y < 2 ^ 63) (q : K (nI (rat x y)) μ) : ax_CI l G 85 [ax_l (lN x), ax_l (lN y)] μ K := by
  refine ax_Ct.of (by decide) (Nat.le_of_ble_eq_true rfl) (sg85_0 l G _ _ _ _ ?_)
  try simp (disch := omega) only [lN_1e4, lN_1e6, lN_mul, wr_s, in_nI, clN, ti_z, ti_l, true_and, and_true, kI, zI, rI, kL, zL, rL, kR, zR, nnI, nnL, nnR, iL, iR, lI, lR, exi, exl, exv, eq_self, nI_add, nI_mul, nI_sub, nI_ltI, nI_leI, nI_eq, q1, q2, q3, q4, q5, q6, q10, q100, br_Tr, br_Fa, iI_s, iI_n, bI_q0, bI_q1, or_true, true_or, not_true_eq_false, not_false_eq_true, nI_l, ge64, Nat.lt_irrefl, Nat.add_sub_cancel, Nat.not_lt_zero]
  unfold rat at q
  rcases Nat.eq_zero_or_pos y with rfl | h0
  · refine d1z ?_
    rw [if_pos rfl] at q
    try simp (disch := omega) only [if_pos (show lN 10000 < lN 1000000 by decide +kernel), lN_i, wr_s, in_nI, clN, ti_z, ti_l, true_and, and_true, kI, zI, rI, kL, zL, rL, kR, zR, nnI, nnL, nnR, iL, iR, lI, lR, exi, exl, exv, eq_self, nI_add, nI_mul, nI_sub, nI_ltI, nI_leI, nI_eq, q0, q1, q2, q3, q4, q5, q6, q10, q100, br_Tr, br_Fa, iI_s, iI_n, bI_q0, bI_q1, or_true, true_or, not_true_eq_false, not_false_eq_true, nI_l, ge64, Nat.lt_irrefl, Nat.add_sub_cancel, Nat.not_lt_zero]
    exact q
  · refine d1n (by omega) hy h0 ?_
    have hd : x * 10000 / y < 2 ^ 63 := Nat.lt_of_le_of_lt (Nat.div_le_self _ _) (by omega)
    rw [if_neg (by omega)] at q
    try simp (disch := omega) only [lN_ltI, wr_s, in_nI, clN, ti_z, ti_l, true_and, and_true, kI, zI, rI, kL, zL, rL, kR, zR, nnI, nnL, nnR, iL, iR, lI, lR, exi, exl, exv, eq_self, nI_add, nI_mul, nI_sub, nI_ltI, nI_leI, nI_eq, q0, q1, q2, q3, q4, q5, q6, q10, q100, br_Tr, br_Fa, iI_s, iI_n, bI_q0, bI_q1, or_true, true_or, not_true_eq_false, not_false_eq_true, nI_l, ge64, Nat.lt_irrefl, Nat.add_sub_cancel, Nat.not_lt_zero]
    rcases Nat.lt_or_ge (x * 10000 / y) 1000000 with h | h
    · rw [Nat.min_eq_right (by omega)] at q
      rw [if_pos h, lN_i]; exact q
    · rw [Nat.min_eq_left (by omega)] at q
      rw [if_neg (by omega), lN_i]; exact q
theorem d94 {w t m : Nat} {K : Int32 → ax_M → Prop} (hc : CT μ c L a) (hw : w ≤ 99) (ht : t < nTh a) (hm : m < nMo a) (q : K (nI (pcs a w t m)) μ) : ax_CI l G 94 [ax_r (some c), ax_i (nI w), ax_i (nI t), ax_i (nI m)] μ K := by
  have hb := hc.bd
  have hv := worth_in hc.1.1 ht m
  refine ax_Ct.of (by decide) (Nat.le_of_ble_eq_true rfl) (sg94_0 l G _ c _ _ _ _ ?_)
  try simp (disch := omega) only [hc.1.2.1.all, hc.1.2.2.1, hc.1.2.2.2.1.1.all, hc.1.2.2.2.1.all, hc.tab, wr_s, in_nI, clN, ti_z, ti_l, true_and, and_true, kI, zI, rI, kL, zL, rL, kR, zR, nnI, nnL, nnR, iL, iR, lI, lR, exi, exl, exv, eq_self, nI_add, nI_mul, nI_sub, nI_ltI, nI_leI, nI_eq, q0, q1, q2, q3, q4, q5, q6, q10, q100, br_Tr, br_Fa, iI_s, iI_n, bI_q0, bI_q1, or_true, true_or, not_true_eq_false, not_false_eq_true, nI_l, ge64, Nat.lt_irrefl, Nat.add_sub_cancel, Nat.not_lt_zero]
  refine d1n (by omega) (by omega) (by omega) ?_
  try simp (disch := omega) only [lN_i, wr_s, in_nI, clN, ti_z, ti_l, true_and, and_true, kI, zI, rI, kL, zL, rL, kR, zR, nnI, nnL, nnR, iL, iR, lI, lR, exi, exl, exv, eq_self, nI_add, nI_mul, nI_sub, nI_ltI, nI_leI, nI_eq, q0, q1, q2, q3, q4, q5, q6, q10, q100, br_Tr, br_Fa, iI_s, iI_n, bI_q0, bI_q1, or_true, true_or, not_true_eq_false, not_false_eq_true, nI_l, ge64, Nat.lt_irrefl, Nat.add_sub_cancel, Nat.not_lt_zero]
  exact q
theorem d131 {g w m : Nat} {K : Int32 → ax_M → Prop} (hc : CT μ c L a) (hw : w ≤ 99) (hg : g < 2 ^ 31) (hm : m < nMo a) (q : K (e4 (best a g w m)) μ) : ax_CI l G 131 [ax_r (some c), ax_i (nI g), ax_i (nI w), ax_i (nI m)] μ K := by
  have hb := hc.bd
  refine ax_Ct.of (by decide) (Nat.le_of_ble_eq_true rfl) (sg131_0 l G _ c _ _ _ _ ?_)
  refine up_to (P := fun t => (ax_Rw l G ax_h131 (ax_E G ax_h131 _) 10 [(0, ax_r (some c)), (1, ax_i (nI g)), (2, ax_i (nI w)), (3, ax_i (nI m)), (4, ax_i (e4 (bstK a g w m t))), (5, ax_i (e5 (bstK a g w m t))), (6, ax_i (nI t))] [] 0 0 μ)) (nTh a) ?_ (fun t ht ih => ?_) 0 (Nat.zero_le _)
  · refine sg131_10 l G _ c _ _ _ _ _ _ _ ?_
    try simp (disch := omega) only [hc.1.2.1.all, hc.1.2.2.1, hc.1.2.2.2.1.1.all, hc.1.2.2.2.1.all, hc.tab, Nat.lt_irrefl, wr_s, in_nI, clN, ti_z, ti_l, true_and, and_true, kI, zI, rI, kL, zL, rL, kR, zR, nnI, nnL, nnR, iL, iR, lI, lR, exi, exl, exv, eq_self, nI_add, nI_mul, nI_sub, nI_ltI, nI_leI, nI_eq, q0, q1, q2, q3, q4, q5, q6, q10, q100, br_Tr, br_Fa, iI_s, iI_n, bI_q0, bI_q1, or_true, true_or, not_true_eq_false, not_false_eq_true, nI_l, ge64, Nat.lt_irrefl, Nat.add_sub_cancel, Nat.not_lt_zero]
    exact q
  · have hgt := hc.1.1.tg ht
    refine sg131_10 l G _ c _ _ _ _ _ _ _ ?_
    try simp (disch := omega) only [hc.1.2.1.all, hc.1.2.2.1, hc.1.2.2.2.1.1.all, hc.1.2.2.2.1.all, hc.tab, ht, wr_s, in_nI, clN, ti_z, ti_l, true_and, and_true, kI, zI, rI, kL, zL, rL, kR, zR, nnI, nnL, nnR, iL, iR, lI, lR, exi, exl, exv, eq_self, nI_add, nI_mul, nI_sub, nI_ltI, nI_leI, nI_eq, q0, q1, q2, q3, q4, q5, q6, q10, q100, br_Tr, br_Fa, iI_s, iI_n, bI_q0, bI_q1, or_true, true_or, not_true_eq_false, not_false_eq_true, nI_l, ge64, Nat.lt_irrefl, Nat.add_sub_cancel, Nat.not_lt_zero]
    unfold bstK at ih
    refine ax_brc (fun h1 => ?_) (fun h1 => ?_)
    · refine d14 hc ht hm ?_
      try simp (disch := omega) only [wr_s, in_nI, clN, ti_z, ti_l, true_and, and_true, kI, zI, rI, kL, zL, rL, kR, zR, nnI, nnL, nnR, iL, iR, lI, lR, exi, exl, exv, eq_self, nI_add, nI_mul, nI_sub, nI_ltI, nI_leI, nI_eq, q0, q1, q2, q3, q4, q5, q6, q10, q100, br_Tr, br_Fa, iI_s, iI_n, bI_q0, bI_q1, or_true, true_or, not_true_eq_false, not_false_eq_true, nI_l, ge64, Nat.lt_irrefl, Nat.add_sub_cancel, Nat.not_lt_zero]
      refine ax_brc (fun h2 => ?_) (fun h2 => ?_)
      · rw [if_neg (fun q => by rw [q.2] at h2; cases h2)] at ih
        exact ih
      · rw [if_pos ⟨h1, by simpa using h2⟩] at ih
        try simp (disch := omega) only [hc.1.2.1.all, hc.1.2.2.1, hc.1.2.2.2.1.1.all, hc.1.2.2.2.1.all, hc.tab, wr_s, in_nI, clN, ti_z, ti_l, true_and, and_true, kI, zI, rI, kL, zL, rL, kR, zR, nnI, nnL, nnR, iL, iR, lI, lR, exi, exl, exv, eq_self, nI_add, nI_mul, nI_sub, nI_ltI, nI_leI, nI_eq, q0, q1, q2, q3, q4, q5, q6, q10, q100, br_Tr, br_Fa, iI_s, iI_n, bI_q0, bI_q1, or_true, true_or, not_true_eq_false, not_false_eq_true, nI_l, ge64, Nat.lt_irrefl, Nat.add_sub_cancel, Nat.not_lt_zero]
        refine d94 hc hw ht hm ?_
        have hp : pcs a w t m * Pr a t m ≤ 98901 := Nat.mul_le_mul (pcs_in hc.1.1 ht hw m) (stt_in hc.1.1 ht m).2.2.2
        try simp (disch := omega) only [hc.1.2.1.all, hc.1.2.2.1, hc.1.2.2.2.1.1.all, hc.1.2.2.2.1.all, hc.tab, wr_s, in_nI, clN, ti_z, ti_l, true_and, and_true, kI, zI, rI, kL, zL, rL, kR, zR, nnI, nnL, nnR, iL, iR, lI, lR, exi, exl, exv, eq_self, nI_add, nI_mul, nI_sub, nI_ltI, nI_leI, nI_eq, q0, q1, q2, q3, q4, q5, q6, q10, q100, br_Tr, br_Fa, iI_s, iI_n, bI_q0, bI_q1, or_true, true_or, not_true_eq_false, not_false_eq_true, nI_l, ge64, Nat.lt_irrefl, Nat.add_sub_cancel, Nat.not_lt_zero]
        cases hk : bstK a g w m t with
        | none =>
          rw [hk] at ih
          exact ax_brt (by decide +kernel) ih
        | some b =>
          rw [hk] at ih
          have hi := bstK_in hc.1.1 (g := g) (m := m) hw t (by omega) b hk
          refine ax_brf (nI_pos (by omega)) ?_
          simp only at ih
          refine br_lt (pcs a w t m * Pr a t m) b.2 rfl rfl (by omega) (by omega) (fun h => ?_) (fun h => ?_)
          · rw [if_pos h] at ih; exact ih
          · rw [if_neg (by omega)] at ih; exact ih
    · rw [if_neg (fun q => h1 q.1)] at ih
      exact ih
end C2
