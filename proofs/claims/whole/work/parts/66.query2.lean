theorem enc_neN {e : Option Nat} (h : ∀ b, e = some b → b < 2 ^ 31) : (eN e = -nI 1) = (e = none) := by
  cases e with
  | none => exact propext (by decide +kernel)
  | some b =>
    refine propext ⟨fun q => ?_, fun q => by cases q⟩
    have q : nI b = -nI 1 := q
    have h2 := nI_pos (h b rfl)
    rw [q] at h2
    exact absurd (by decide +kernel) h2
section E3
variable {l : Launch} {G : ax_G} {μ : ax_M} {L M : Nat} {st : St}
theorem p2 {K : Int32 → ax_M → Prop} (hx : X μ st) (q : K (nI (fau st)) μ) : ax_CI l G 2 [ax_r (some 64)] μ K := by
  obtain ⟨L, M, hx⟩ := hx
  refine ax_Ct.of (by decide) (Nat.le_of_ble_eq_true rfl) (sg2_0 l G _ 64 _ ?_)
  try simp (disch := omega) only [hx.all, wr_s, in_nI, clN, ti_z, ti_l, true_and, and_true, kI, zI, rI, kL, zL, rL, kR, zR, nnI, nnL, nnR, iL, iR, lI, lR, exi, exl, exv, eq_self, nI_add, nI_mul, nI_sub, nI_ltI, nI_leI, nI_eq, q0, q1, q2, q3, q4, q5, q6, q10, q100, br_Tr, br_Fa, iI_s, iI_n, bI_q0, bI_q1, or_true, true_or, not_true_eq_false, not_false_eq_true, nI_l, ge64, Nat.lt_irrefl, Nat.add_sub_cancel, Nat.not_lt_zero, lN_0, lN_1e4, lN_1e6, lN_1e3, lN_add, lN_mul, lN_ltI, lN_leI, lN_eqI, lN_i, lcE, lcLe, lcLt, lN_div]
  exact q
theorem p8 {K : Int32 → ax_M → Prop} (hx : X μ st) (q : K (nI (tro st)) μ) : ax_CI l G 8 [ax_r (some 64)] μ K := by
  obtain ⟨L, M, hx⟩ := hx
  refine ax_Ct.of (by decide) (Nat.le_of_ble_eq_true rfl) (sg8_0 l G _ 64 _ ?_)
  try simp (disch := omega) only [hx.all, wr_s, in_nI, clN, ti_z, ti_l, true_and, and_true, kI, zI, rI, kL, zL, rL, kR, zR, nnI, nnL, nnR, iL, iR, lI, lR, exi, exl, exv, eq_self, nI_add, nI_mul, nI_sub, nI_ltI, nI_leI, nI_eq, q0, q1, q2, q3, q4, q5, q6, q10, q100, br_Tr, br_Fa, iI_s, iI_n, bI_q0, bI_q1, or_true, true_or, not_true_eq_false, not_false_eq_true, nI_l, ge64, Nat.lt_irrefl, Nat.add_sub_cancel, Nat.not_lt_zero, lN_0, lN_1e4, lN_1e6, lN_1e3, lN_add, lN_mul, lN_ltI, lN_leI, lN_eqI, lN_i, lcE, lcLe, lcLt, lN_div]
  exact q
def aWhere (st : St) : Int32 := if tro st = 4 then nI (pla st) else -nI 1
theorem p9 {K : Int32 → ax_M → Prop} (hx : X μ st) (q : K (aWhere st) μ) : ax_CI l G 9 [ax_r (some 64)] μ K := by
  obtain ⟨L, M, hx⟩ := hx
  have hb := hx.bd
  refine ax_Ct.of (by decide) (Nat.le_of_ble_eq_true rfl) (sg9_0 l G _ 64 _ ?_)
  try simp (disch := omega) only [hx.all, wr_s, in_nI, clN, ti_z, ti_l, true_and, and_true, kI, zI, rI, kL, zL, rL, kR, zR, nnI, nnL, nnR, iL, iR, lI, lR, exi, exl, exv, eq_self, nI_add, nI_mul, nI_sub, nI_ltI, nI_leI, nI_eq, q0, q1, q2, q3, q4, q5, q6, q10, q100, br_Tr, br_Fa, iI_s, iI_n, bI_q0, bI_q1, or_true, true_or, not_true_eq_false, not_false_eq_true, nI_l, ge64, Nat.lt_irrefl, Nat.add_sub_cancel, Nat.not_lt_zero, lN_0, lN_1e4, lN_1e6, lN_1e3, lN_add, lN_mul, lN_ltI, lN_leI, lN_eqI, lN_i, lcE, lcLe, lcLt, lN_div]
  unfold aWhere at q
  refine ax_brc (fun h => ?_) (fun h => ?_)
  · rw [if_pos h] at q
    rw [hx.2.2.2.1 h]; exact q
  · rw [if_neg h] at q; exact q
def aSize (st : St) (x : Int32) : Int32 := if x = nI 0 then nI (cn st 0) else if x = nI 1 then nI (cn st 1) else if x = nI 2 then nI (cn st 2) else if x = nI 3 then nI (cn st 3) else if x = nI 4 then nI (cn st 5) else if x = nI 5 then nI (cn st 6) else if x = nI 6 then nI (ln st) else -nI 1
theorem p7 {x : Int32} {K : Int32 → ax_M → Prop} (hx : X μ st) (q : K (aSize st x) μ) : ax_CI l G 7 [ax_r (some 64), ax_i x] μ K := by
  obtain ⟨L, M, hx⟩ := hx
  have hb := hx.bd
  refine ax_Ct.of (by decide) (Nat.le_of_ble_eq_true rfl) (sg7_0 l G _ 64 _ _ ?_)
  try simp (disch := omega) only [hx.all, wr_s, in_nI, clN, ti_z, ti_l, true_and, and_true, kI, zI, rI, kL, zL, rL, kR, zR, nnI, nnL, nnR, iL, iR, lI, lR, exi, exl, exv, eq_self, nI_add, nI_mul, nI_sub, nI_ltI, nI_leI, nI_eq, q0, q1, q2, q3, q4, q5, q6, q10, q100, br_Tr, br_Fa, iI_s, iI_n, bI_q0, bI_q1, or_true, true_or, not_true_eq_false, not_false_eq_true, nI_l, ge64, Nat.lt_irrefl, Nat.add_sub_cancel, Nat.not_lt_zero, lN_0, lN_1e4, lN_1e6, lN_1e3, lN_add, lN_mul, lN_ltI, lN_leI, lN_eqI, lN_i, lcE, lcLe, lcLt, lN_div]
  unfold aSize at q
  refine ax_brc (fun h => by rw [if_pos h] at q; exact q) (fun h => ?_)
  rw [if_neg h] at q
  refine ax_brc (fun h => by rw [if_pos h] at q; exact q) (fun h => ?_)
  rw [if_neg h] at q
  refine ax_brc (fun h => by rw [if_pos h] at q; exact q) (fun h => ?_)
  rw [if_neg h] at q
  refine ax_brc (fun h => by rw [if_pos h] at q; exact q) (fun h => ?_)
  rw [if_neg h] at q
  refine ax_brc (fun h => by rw [if_pos h] at q; exact q) (fun h => ?_)
  rw [if_neg h] at q
  refine ax_brc (fun h => by rw [if_pos h] at q; exact q) (fun h => ?_)
  rw [if_neg h] at q
  refine ax_brc (fun h => by rw [if_pos h] at q; exact q) (fun h => ?_)
  rw [if_neg h] at q
  exact q
def thV (a : Ld) (t m : Nat) (z : Int32) : Int32 := if z = nI 0 then nI (Sz a t m) else if z = nI 1 then nI (Sf a t m) else if z = nI 2 then nI (Pr a t m) else if z = nI 3 then bI (Tr a t m) else if z = nI 4 then nI (tG a t) else -nI 1
def aThing (st : St) (x y z : Int32) : Int32 := cond (inN x (cn st 2) && inN y (cn st 0)) (thV (ldo st) (cl x) (cl y) z) (-nI 1)
theorem p86 {x y z : Int32} {K : Int32 → ax_M → Prop} (hx : X μ st) (q : K (aThing st x y z) μ) : ax_CI l G 86 [ax_r (some 64), ax_i x, ax_i y, ax_i z] μ K := by
  obtain ⟨L, M, hx⟩ := hx
  have hb := hx.bd
  unfold aThing at q
  refine ax_Ct.of (by decide) (Nat.le_of_ble_eq_true rfl) (sg86_0 l G _ 64 _ _ _ _ ?_)
  try simp (disch := omega) only [hx.all, wr_s, in_nI, clN, ti_z, ti_l, true_and, and_true, kI, zI, rI, kL, zL, rL, kR, zR, nnI, nnL, nnR, iL, iR, lI, lR, exi, exl, exv, eq_self, nI_add, nI_mul, nI_sub, nI_ltI, nI_leI, nI_eq, q0, q1, q2, q3, q4, q5, q6, q10, q100, br_Tr, br_Fa, iI_s, iI_n, bI_q0, bI_q1, or_true, true_or, not_true_eq_false, not_false_eq_true, nI_l, ge64, Nat.lt_irrefl, Nat.add_sub_cancel, Nat.not_lt_zero, lN_0, lN_1e4, lN_1e6, lN_1e3, lN_add, lN_mul, lN_ltI, lN_leI, lN_eqI, lN_i, lcE, lcLe, lcLt, lN_div]
  refine d25 hx.all.2.1.2.2.2.2.1 hx.all.2.2.2.2.2.1 ?_
  try simp (disch := omega) only [hx.all, wr_s, in_nI, clN, ti_z, ti_l, true_and, and_true, kI, zI, rI, kL, zL, rL, kR, zR, nnI, nnL, nnR, iL, iR, lI, lR, exi, exl, exv, eq_self, nI_add, nI_mul, nI_sub, nI_ltI, nI_leI, nI_eq, q0, q1, q2, q3, q4, q5, q6, q10, q100, br_Tr, br_Fa, iI_s, iI_n, bI_q0, bI_q1, or_true, true_or, not_true_eq_false, not_false_eq_true, nI_l, ge64, Nat.lt_irrefl, Nat.add_sub_cancel, Nat.not_lt_zero, lN_0, lN_1e4, lN_1e6, lN_1e3, lN_add, lN_mul, lN_ltI, lN_leI, lN_eqI, lN_i, lcE, lcLe, lcLt, lN_div]
  cases h1 : inN x (cn st 2)
  · rw [h1] at q; exact ax_brt rfl q
  · refine ax_brf (by decide) ?_
    refine d23 hx.all.2.1.2.2.2.2.1 hx.all.2.2.2.1 ?_
    try simp (disch := omega) only [hx.all, wr_s, in_nI, clN, ti_z, ti_l, true_and, and_true, kI, zI, rI, kL, zL, rL, kR, zR, nnI, nnL, nnR, iL, iR, lI, lR, exi, exl, exv, eq_self, nI_add, nI_mul, nI_sub, nI_ltI, nI_leI, nI_eq, q0, q1, q2, q3, q4, q5, q6, q10, q100, br_Tr, br_Fa, iI_s, iI_n, bI_q0, bI_q1, or_true, true_or, not_true_eq_false, not_false_eq_true, nI_l, ge64, Nat.lt_irrefl, Nat.add_sub_cancel, Nat.not_lt_zero, lN_0, lN_1e4, lN_1e6, lN_1e3, lN_add, lN_mul, lN_ltI, lN_leI, lN_eqI, lN_i, lcE, lcLe, lcLt, lN_div]
    cases h2 : inN y (cn st 0)
    · rw [h1, h2] at q; exact ax_brt rfl q
    · rw [h1, h2] at q
      refine ax_brf (by decide) ?_
      obtain ⟨t, ht, rfl⟩ := inN_t (by omega) h1
      obtain ⟨m, hm, rfl⟩ := inN_t (by omega) h2
      obtain ⟨hn, he⟩ := hx.tn ht
      have hba := hn.bd
      rw [cl_nI (by omega), cl_nI (by omega)] at q
      unfold thV at q
      try simp (disch := omega) only [hx.all, hn.1.1.1.1.1.2.1.all, hn.1.1.1.1.1.2.2.1, hn.1.1.1.1.1.2.2.2.1.1.all, hn.1.1.1.1.1.2.2.2.1.all, hn.1.1.1.1.tab, hn.1.1.1.2, hn.1.1.2, hn.1.2.1.all, hn.1.2.2.1, hn.2, wr_s, in_nI, clN, ti_z, ti_l, true_and, and_true, kI, zI, rI, kL, zL, rL, kR, zR, nnI, nnL, nnR, iL, iR, lI, lR, exi, exl, exv, eq_self, nI_add, nI_mul, nI_sub, nI_ltI, nI_leI, nI_eq, q0, q1, q2, q3, q4, q5, q6, q10, q100, br_Tr, br_Fa, iI_s, iI_n, bI_q0, bI_q1, or_true, true_or, not_true_eq_false, not_false_eq_true, nI_l, ge64, Nat.lt_irrefl, Nat.add_sub_cancel, Nat.not_lt_zero, lN_0, lN_1e4, lN_1e6, lN_1e3, lN_add, lN_mul, lN_ltI, lN_leI, lN_eqI, lN_i, lcE, lcLe, lcLt, lN_div]
      refine ax_brc (fun h => by rw [if_pos h] at q; exact q) (fun h => ?_)
      rw [if_neg h] at q
      refine ax_brc (fun h => by rw [if_pos h] at q; exact q) (fun h => ?_)
      rw [if_neg h] at q
      refine ax_brc (fun h => by rw [if_pos h] at q; exact q) (fun h => ?_)
      rw [if_neg h] at q
      refine ax_brc (fun h => ?_) (fun h => ?_)
      · rw [if_pos h] at q
        refine d14 hn.1.1.1.1 (by omega) (by omega) ?_
        try simp (disch := omega) only [wr_s, in_nI, clN, ti_z, ti_l, true_and, and_true, kI, zI, rI, kL, zL, rL, kR, zR, nnI, nnL, nnR, iL, iR, lI, lR, exi, exl, exv, eq_self, nI_add, nI_mul, nI_sub, nI_ltI, nI_leI, nI_eq, q0, q1, q2, q3, q4, q5, q6, q10, q100, br_Tr, br_Fa, iI_s, iI_n, bI_q0, bI_q1, or_true, true_or, not_true_eq_false, not_false_eq_true, nI_l, ge64, Nat.lt_irrefl, Nat.add_sub_cancel, Nat.not_lt_zero, lN_0, lN_1e4, lN_1e6, lN_1e3, lN_add, lN_mul, lN_ltI, lN_leI, lN_eqI, lN_i, lcE, lcLe, lcLt, lN_div]
        cases hT : Tr (ldo st) t m
        · rw [hT] at q; exact ax_brt rfl q
        · rw [hT] at q; exact ax_brf (by decide) q
      rw [if_neg h] at q
      refine ax_brc (fun h => by rw [if_pos h] at q; exact q) (fun h => ?_)
      rw [if_neg h] at q
      exact q
def aBuys (st : St) (x y z w : Int32) : Int32 × St := aQ (((inN x (cn st 5) && inN y (cn st 1)) && decide (0 < hW (ldo st) (cl x) (cl y))) && (inN z (cn st 0) && (decide (w = nI 0) || decide (w = nI 1)))) st (if w = nI 0 then enc (buy (ldo st) (cl x) (cl y) (cl z)).1 else nI (buy (ldo st) (cl x) (cl y) (cl z)).2)
theorem p81 {x y z w : Int32} {K : Int32 → ax_M → Prop} (hx : X μ st) (q : ∀ μ', Out 64 332 μ μ' → X μ' (aBuys st x y z w).2 → K (aBuys st x y z w).1 μ') : ax_CI l G 81 [ax_r (some 64), ax_i x, ax_i y, ax_i z, ax_i w] μ K := by
  obtain ⟨L, M, hx⟩ := hx
  have hb := hx.bd
  unfold aBuys aQ at q
  have no : (((inN x (cn st 5) && inN y (cn st 1)) && decide (0 < hW (ldo st) (cl x) (cl y))) && (inN z (cn st 0) && (decide (w = nI 0) || decide (w = nI 1)))) = false → (ax_Rw l G ax_h81 (ax_E G ax_h81 (fun x μ' => ∃ v : Int32, x = some (ax_i v) ∧ K v μ')) 79 [(0, ax_r (some 64)), (1, ax_i x), (2, ax_i y), (3, ax_i z), (4, ax_i w)] [ax_i (nI 0), ax_r (some 64)] 0 0 μ) := by
    intro hf
    rw [hf] at q
    refine sg81_79 l G _ 64 _ _ _ _ _ _ _ ?_
    try simp (disch := omega) only [hx.all, wr_s, in_nI, clN, ti_z, ti_l, true_and, and_true, kI, zI, rI, kL, zL, rL, kR, zR, nnI, nnL, nnR, iL, iR, lI, lR, exi, exl, exv, eq_self, nI_add, nI_mul, nI_sub, nI_ltI, nI_leI, nI_eq, q0, q1, q2, q3, q4, q5, q6, q10, q100, br_Tr, br_Fa, iI_s, iI_n, bI_q0, bI_q1, or_true, true_or, not_true_eq_false, not_false_eq_true, nI_l, ge64, Nat.lt_irrefl, Nat.add_sub_cancel, Nat.not_lt_zero, lN_0, lN_1e4, lN_1e6, lN_1e3, lN_add, lN_mul, lN_ltI, lN_leI, lN_eqI, lN_i, lcE, lcLe, lcLt, lN_div]
    refine d3 (b := false) hx.all.1.1 ?_
    exact ax_brt rfl (q _ ((Out.refl _ _ _).I (by omega) (by omega)) ⟨L, M, hx.q (b := false)⟩)
  have yes : inN x (cn st 5) = true → inN y (cn st 1) = true → 0 < hW (ldo st) (cl x) (cl y) → inN z (cn st 0) = true → (w = nI 0 ∨ w = nI 1) → (ax_Rw l G ax_h81 (ax_E G ax_h81 (fun x μ' => ∃ v : Int32, x = some (ax_i v) ∧ K v μ')) 79 [(0, ax_r (some 64)), (1, ax_i x), (2, ax_i y), (3, ax_i z), (4, ax_i w)] [ax_i (nI 1), ax_r (some 64)] 0 0 μ) := by
    intro h1 h2 h3 h4 h5
    have hx' := hx.q (b := true)
    rw [h1, h2, h4, decide_eq_true h3, show (decide (w = nI 0) || decide (w = nI 1)) = true by simpa using h5] at q
    obtain ⟨h, hh, rfl⟩ := inN_t (by omega) h1
    obtain ⟨g, hg, rfl⟩ := inN_t (by omega) h2
    obtain ⟨m, hm, rfl⟩ := inN_t (by omega) h4
    obtain ⟨ht, he⟩ := hx.tn hh
    have hba := ht.bd
    rw [cl_nI (by omega), cl_nI (by omega), cl_nI (by omega)] at q
    refine sg81_79 l G _ 64 _ _ _ _ _ _ _ ?_
    try simp (disch := omega) only [hx.all, wr_s, in_nI, clN, ti_z, ti_l, true_and, and_true, kI, zI, rI, kL, zL, rL, kR, zR, nnI, nnL, nnR, iL, iR, lI, lR, exi, exl, exv, eq_self, nI_add, nI_mul, nI_sub, nI_ltI, nI_leI, nI_eq, q0, q1, q2, q3, q4, q5, q6, q10, q100, br_Tr, br_Fa, iI_s, iI_n, bI_q0, bI_q1, or_true, true_or, not_true_eq_false, not_false_eq_true, nI_l, ge64, Nat.lt_irrefl, Nat.add_sub_cancel, Nat.not_lt_zero, lN_0, lN_1e4, lN_1e6, lN_1e3, lN_add, lN_mul, lN_ltI, lN_leI, lN_eqI, lN_i, lcE, lcLe, lcLt, lN_div]
    refine d3 (b := true) hx.all.1.1 ?_
    refine ax_brf (by decide) ?_
    refine d6 ?_
    try simp (disch := omega) only [hx.all, ht.1.1.1.1.1.2.1.all, ht.1.1.1.1.1.2.2.1, ht.1.1.1.1.1.2.2.2.1.1.all, ht.1.1.1.1.1.2.2.2.1.all, ht.1.1.1.1.tab, ht.1.1.1.2, ht.1.1.2, ht.1.2.1.all, ht.1.2.2.1, ht.2, wr_s, in_nI, clN, ti_z, ti_l, true_and, and_true, kI, zI, rI, kL, zL, rL, kR, zR, nnI, nnL, nnR, iL, iR, lI, lR, exi, exl, exv, eq_self, nI_add, nI_mul, nI_sub, nI_ltI, nI_leI, nI_eq, q0, q1, q2, q3, q4, q5, q6, q10, q100, br_Tr, br_Fa, iI_s, iI_n, bI_q0, bI_q1, or_true, true_or, not_true_eq_false, not_false_eq_true, nI_l, ge64, Nat.lt_irrefl, Nat.add_sub_cancel, Nat.not_lt_zero, lN_0, lN_1e4, lN_1e6, lN_1e3, lN_add, lN_mul, lN_ltI, lN_leI, lN_eqI, lN_i, lcE, lcLe, lcLt, lN_div]
    refine ax_brc (fun h0 => ?_) (fun h0 => ?_)
    · rw [if_pos h0] at q
      exact (q _ ((Out.refl _ _ _).I (by omega) (by omega)) ⟨L, M, hx'⟩)
    · rw [if_neg h0] at q
      exact (q _ ((Out.refl _ _ _).I (by omega) (by omega)) ⟨L, M, hx'⟩)
  have mid : ∀ b : Bool, b = ((inN x (cn st 5) && inN y (cn st 1)) && decide (0 < hW (ldo st) (cl x) (cl y))) → (ax_Rw l G ax_h81 (ax_E G ax_h81 (fun x μ' => ∃ v : Int32, x = some (ax_i v) ∧ K v μ')) 44 [(0, ax_r (some 64)), (1, ax_i x), (2, ax_i y), (3, ax_i z), (4, ax_i w)] [ax_i (bI b)] 0 0 μ) := by
    intro b hbb
    refine sg81_44 l G _ 64 _ _ _ _ _ _ ?_
    try simp (disch := omega) only [hx.all, wr_s, in_nI, clN, ti_z, ti_l, true_and, and_true, kI, zI, rI, kL, zL, rL, kR, zR, nnI, nnL, nnR, iL, iR, lI, lR, exi, exl, exv, eq_self, nI_add, nI_mul, nI_sub, nI_ltI, nI_leI, nI_eq, q0, q1, q2, q3, q4, q5, q6, q10, q100, br_Tr, br_Fa, iI_s, iI_n, bI_q0, bI_q1, or_true, true_or, not_true_eq_false, not_false_eq_true, nI_l, ge64, Nat.lt_irrefl, Nat.add_sub_cancel, Nat.not_lt_zero, lN_0, lN_1e4, lN_1e6, lN_1e3, lN_add, lN_mul, lN_ltI, lN_leI, lN_eqI, lN_i, lcE, lcLe, lcLt, lN_div]
    cases b
    · refine ax_brt rfl (no (by rw [← hbb]; rfl))
    · refine ax_brf (by decide) ?_
      refine d23 hx.all.2.1.2.2.2.2.1 hx.all.2.2.2.1 ?_
      try simp (disch := omega) only [hx.all, wr_s, in_nI, clN, ti_z, ti_l, true_and, and_true, kI, zI, rI, kL, zL, rL, kR, zR, nnI, nnL, nnR, iL, iR, lI, lR, exi, exl, exv, eq_self, nI_add, nI_mul, nI_sub, nI_ltI, nI_leI, nI_eq, q0, q1, q2, q3, q4, q5, q6, q10, q100, br_Tr, br_Fa, iI_s, iI_n, bI_q0, bI_q1, or_true, true_or, not_true_eq_false, not_false_eq_true, nI_l, ge64, Nat.lt_irrefl, Nat.add_sub_cancel, Nat.not_lt_zero, lN_0, lN_1e4, lN_1e6, lN_1e3, lN_add, lN_mul, lN_ltI, lN_leI, lN_eqI, lN_i, lcE, lcLe, lcLt, lN_div]
      cases h2 : inN z (cn st 0)
      · exact ax_brt rfl (no (by rw [h2]; simp))
      · refine ax_brf (by decide) ?_
        have hbb := hbb.symm
        simp only [Bool.and_eq_true, decide_eq_true_eq] at hbb
        refine ax_brc (fun h0 => yes hbb.1.1 hbb.1.2 hbb.2 h2 (Or.inl h0)) (fun h0 => ?_)
        refine ax_brc (fun h1 => yes hbb.1.1 hbb.1.2 hbb.2 h2 (Or.inr h1)) (fun h1 => no (by simp [h0, h1]))
  refine ax_Ct.of (by decide) (Nat.le_of_ble_eq_true rfl) (sg81_0 l G _ 64 _ _ _ _ _ ?_)
  try simp (disch := omega) only [hx.all, wr_s, in_nI, clN, ti_z, ti_l, true_and, and_true, kI, zI, rI, kL, zL, rL, kR, zR, nnI, nnL, nnR, iL, iR, lI, lR, exi, exl, exv, eq_self, nI_add, nI_mul, nI_sub, nI_ltI, nI_leI, nI_eq, q0, q1, q2, q3, q4, q5, q6, q10, q100, br_Tr, br_Fa, iI_s, iI_n, bI_q0, bI_q1, or_true, true_or, not_true_eq_false, not_false_eq_true, nI_l, ge64, Nat.lt_irrefl, Nat.add_sub_cancel, Nat.not_lt_zero, lN_0, lN_1e4, lN_1e6, lN_1e3, lN_add, lN_mul, lN_ltI, lN_leI, lN_eqI, lN_i, lcE, lcLe, lcLt, lN_div]
  refine d21 hx.all.2.1.2.2.2.2.1 hx.all.2.2.2.2.2.2.2.2.1 ?_
  try simp (disch := omega) only [hx.all, wr_s, in_nI, clN, ti_z, ti_l, true_and, and_true, kI, zI, rI, kL, zL, rL, kR, zR, nnI, nnL, nnR, iL, iR, lI, lR, exi, exl, exv, eq_self, nI_add, nI_mul, nI_sub, nI_ltI, nI_leI, nI_eq, q0, q1, q2, q3, q4, q5, q6, q10, q100, br_Tr, br_Fa, iI_s, iI_n, bI_q0, bI_q1, or_true, true_or, not_true_eq_false, not_false_eq_true, nI_l, ge64, Nat.lt_irrefl, Nat.add_sub_cancel, Nat.not_lt_zero, lN_0, lN_1e4, lN_1e6, lN_1e3, lN_add, lN_mul, lN_ltI, lN_leI, lN_eqI, lN_i, lcE, lcLe, lcLt, lN_div]
  cases h1 : inN x (cn st 5)
  · exact ax_brt rfl (mid false (by rw [h1]; rfl))
  · refine ax_brf (by decide) ?_
    refine d20 hx.all.2.1.2.2.2.2.1 hx.all.2.2.2.2.1 ?_
    try simp (disch := omega) only [hx.all, wr_s, in_nI, clN, ti_z, ti_l, true_and, and_true, kI, zI, rI, kL, zL, rL, kR, zR, nnI, nnL, nnR, iL, iR, lI, lR, exi, exl, exv, eq_self, nI_add, nI_mul, nI_sub, nI_ltI, nI_leI, nI_eq, q0, q1, q2, q3, q4, q5, q6, q10, q100, br_Tr, br_Fa, iI_s, iI_n, bI_q0, bI_q1, or_true, true_or, not_true_eq_false, not_false_eq_true, nI_l, ge64, Nat.lt_irrefl, Nat.add_sub_cancel, Nat.not_lt_zero, lN_0, lN_1e4, lN_1e6, lN_1e3, lN_add, lN_mul, lN_ltI, lN_leI, lN_eqI, lN_i, lcE, lcLe, lcLt, lN_div]
    cases h2 : inN y (cn st 1)
    · exact ax_brt rfl (mid false (by rw [h1, h2]; rfl))
    · refine ax_brf (by decide) ?_
      rw [h1, h2] at mid
      obtain ⟨h, hh, rfl⟩ := inN_t (by omega) h1
      obtain ⟨g, hg, rfl⟩ := inN_t (by omega) h2
      obtain ⟨ht, he⟩ := hx.tn hh
      have hba := ht.bd
      rw [cl_nI (by omega), cl_nI (by omega)] at mid
      have hw9 := (ht.1.1.1.1.1.1.hw (show h < nHo (ldo st) by omega)).2.2 g (by omega)
      try simp (disch := omega) only [hx.all, ht.1.1.1.1.1.2.1.all, ht.1.1.1.1.1.2.2.1, ht.1.1.1.1.1.2.2.2.1.1.all, ht.1.1.1.1.1.2.2.2.1.all, ht.1.1.1.1.tab, ht.1.1.1.2, ht.1.1.2, ht.1.2.1.all, ht.1.2.2.1, ht.2, wr_s, in_nI, clN, ti_z, ti_l, true_and, and_true, kI, zI, rI, kL, zL, rL, kR, zR, nnI, nnL, nnR, iL, iR, lI, lR, exi, exl, exv, eq_self, nI_add, nI_mul, nI_sub, nI_ltI, nI_leI, nI_eq, q0, q1, q2, q3, q4, q5, q6, q10, q100, br_Tr, br_Fa, iI_s, iI_n, bI_q0, bI_q1, or_true, true_or, not_true_eq_false, not_false_eq_true, nI_l, ge64, Nat.lt_irrefl, Nat.add_sub_cancel, Nat.not_lt_zero, lN_0, lN_1e4, lN_1e6, lN_1e3, lN_add, lN_mul, lN_ltI, lN_leI, lN_eqI, lN_i, lcE, lcLe, lcLt, lN_div]
      refine ax_brc (fun h0 => ?_) (fun h0 => ?_)
      · exact mid false (by simp; omega)
      · exact mid true (by simp; omega)
def aBack (st : St) (x : Int32) : Int32 × St := aQ (inN x (cn st 0)) st (bI (isBk (ldo st) (cl x)))
theorem p161 {x : Int32} {K : Int32 → ax_M → Prop} (hx : X μ st) (q : ∀ μ', Out 64 332 μ μ' → X μ' (aBack st x).2 → K (aBack st x).1 μ') : ax_CI l G 161 [ax_r (some 64), ax_i x] μ K := by
  obtain ⟨L, M, hx⟩ := hx
  have hb := hx.bd
  unfold aBack aQ at q
  refine ax_Ct.of (by decide) (Nat.le_of_ble_eq_true rfl) (sg161_0 l G _ 64 _ _ ?_)
  try simp (disch := omega) only [hx.all, wr_s, in_nI, clN, ti_z, ti_l, true_and, and_true, kI, zI, rI, kL, zL, rL, kR, zR, nnI, nnL, nnR, iL, iR, lI, lR, exi, exl, exv, eq_self, nI_add, nI_mul, nI_sub, nI_ltI, nI_leI, nI_eq, q0, q1, q2, q3, q4, q5, q6, q10, q100, br_Tr, br_Fa, iI_s, iI_n, bI_q0, bI_q1, or_true, true_or, not_true_eq_false, not_false_eq_true, nI_l, ge64, Nat.lt_irrefl, Nat.add_sub_cancel, Nat.not_lt_zero, lN_0, lN_1e4, lN_1e6, lN_1e3, lN_add, lN_mul, lN_ltI, lN_leI, lN_eqI, lN_i, lcE, lcLe, lcLt, lN_div]
  refine d23 hx.all.2.1.2.2.2.2.1 hx.all.2.2.2.1 ?_
  try simp (disch := omega) only [hx.all, wr_s, in_nI, clN, ti_z, ti_l, true_and, and_true, kI, zI, rI, kL, zL, rL, kR, zR, nnI, nnL, nnR, iL, iR, lI, lR, exi, exl, exv, eq_self, nI_add, nI_mul, nI_sub, nI_ltI, nI_leI, nI_eq, q0, q1, q2, q3, q4, q5, q6, q10, q100, br_Tr, br_Fa, iI_s, iI_n, bI_q0, bI_q1, or_true, true_or, not_true_eq_false, not_false_eq_true, nI_l, ge64, Nat.lt_irrefl, Nat.add_sub_cancel, Nat.not_lt_zero, lN_0, lN_1e4, lN_1e6, lN_1e3, lN_add, lN_mul, lN_ltI, lN_leI, lN_eqI, lN_i, lcE, lcLe, lcLt, lN_div]
  refine d3 hx.all.1.1 ?_
  have hx' := hx.q (b := inN x (cn st 0))
  try simp (disch := omega) only [hx.all, wr_s, in_nI, clN, ti_z, ti_l, true_and, and_true, kI, zI, rI, kL, zL, rL, kR, zR, nnI, nnL, nnR, iL, iR, lI, lR, exi, exl, exv, eq_self, nI_add, nI_mul, nI_sub, nI_ltI, nI_leI, nI_eq, q0, q1, q2, q3, q4, q5, q6, q10, q100, br_Tr, br_Fa, iI_s, iI_n, bI_q0, bI_q1, or_true, true_or, not_true_eq_false, not_false_eq_true, nI_l, ge64, Nat.lt_irrefl, Nat.add_sub_cancel, Nat.not_lt_zero, lN_0, lN_1e4, lN_1e6, lN_1e3, lN_add, lN_mul, lN_ltI, lN_leI, lN_eqI, lN_i, lcE, lcLe, lcLt, lN_div]
  cases hc : inN x (cn st 0)
  · rw [hc] at q hx'
    exact ax_brt rfl (q _ ((Out.refl _ _ _).I (by omega) (by omega)) ⟨L, M, hx'⟩)
  · rw [hc] at q hx'
    obtain ⟨m, hm, rfl⟩ := inN_t (by omega) hc
    obtain ⟨ht, he⟩ := hx.tn hm
    have hba := ht.bd
    rw [cl_nI (by omega)] at q
    refine ax_brf (by decide) ?_
    refine d136 (ht.t9 (by omega)).1.1.1.1 (by omega) ?_
    try simp (disch := omega) only [wr_s, in_nI, clN, ti_z, ti_l, true_and, and_true, kI, zI, rI, kL, zL, rL, kR, zR, nnI, nnL, nnR, iL, iR, lI, lR, exi, exl, exv, eq_self, nI_add, nI_mul, nI_sub, nI_ltI, nI_leI, nI_eq, q0, q1, q2, q3, q4, q5, q6, q10, q100, br_Tr, br_Fa, iI_s, iI_n, bI_q0, bI_q1, or_true, true_or, not_true_eq_false, not_false_eq_true, nI_l, ge64, Nat.lt_irrefl, Nat.add_sub_cancel, Nat.not_lt_zero, lN_0, lN_1e4, lN_1e6, lN_1e3, lN_add, lN_mul, lN_ltI, lN_leI, lN_eqI, lN_i, lcE, lcLe, lcLt, lN_div]
    cases hT : isBk (ldo st) m
    · rw [hT] at q; exact ax_brt rfl (q _ ((Out.refl _ _ _).I (by omega) (by omega)) ⟨L, M, hx'⟩)
    · rw [hT] at q; exact ax_brf (by decide) (q _ ((Out.refl _ _ _).I (by omega) (by omega)) ⟨L, M, hx'⟩)
def aDrift (st : St) (x y : Int32) : Int32 × St := cond (inN x (cn st 6) && inN y (cn st 0)) (cond (isBk (ldo st) (cl y)) (nI (num (ldo st) (cl x) (cl y)) - nI 10000, sT st 0) (-1000000000, sT st 5)) (-1000000000, sT st 1)
theorem sT_sT (st : St) (a b : Nat) : sT (sT st a) b = sT st b := rfl
theorem sI_sI (μ : ax_M) (a k : Nat) (u v : Int32) : sI (sI μ a k u) a k v = sI μ a k v := by
  unfold sI
  congr 1
  congr 1
  congr 1
  funext b j
  simp only [ax_u2]
  split <;> rfl
theorem p162 {x y : Int32} {K : Int32 → ax_M → Prop} (hx : X μ st) (q : ∀ μ', Out 64 332 μ μ' → X μ' (aDrift st x y).2 → K (aDrift st x y).1 μ') : ax_CI l G 162 [ax_r (some 64), ax_i x, ax_i y] μ K := by
  obtain ⟨L, M, hx⟩ := hx
  have hb := hx.bd
  refine ax_Ct.of (by decide) (Nat.le_of_ble_eq_true rfl) (sg162_0 l G _ 64 _ _ _ ?_)
  try simp (disch := omega) only [hx.all, wr_s, in_nI, clN, ti_z, ti_l, true_and, and_true, kI, zI, rI, kL, zL, rL, kR, zR, nnI, nnL, nnR, iL, iR, lI, lR, exi, exl, exv, eq_self, nI_add, nI_mul, nI_sub, nI_ltI, nI_leI, nI_eq, q0, q1, q2, q3, q4, q5, q6, q10, q100, br_Tr, br_Fa, iI_s, iI_n, bI_q0, bI_q1, or_true, true_or, not_true_eq_false, not_false_eq_true, nI_l, ge64, Nat.lt_irrefl, Nat.add_sub_cancel, Nat.not_lt_zero, lN_0, lN_1e4, lN_1e6, lN_1e3, lN_add, lN_mul, lN_ltI, lN_leI, lN_eqI, lN_i, lcE, lcLe, lcLt, lN_div]
  refine d84 hx ?_
  try simp (disch := omega) only [hx.all, wr_s, in_nI, clN, ti_z, ti_l, true_and, and_true, kI, zI, rI, kL, zL, rL, kR, zR, nnI, nnL, nnR, iL, iR, lI, lR, exi, exl, exv, eq_self, nI_add, nI_mul, nI_sub, nI_ltI, nI_leI, nI_eq, q0, q1, q2, q3, q4, q5, q6, q10, q100, br_Tr, br_Fa, iI_s, iI_n, bI_q0, bI_q1, or_true, true_or, not_true_eq_false, not_false_eq_true, nI_l, ge64, Nat.lt_irrefl, Nat.add_sub_cancel, Nat.not_lt_zero, lN_0, lN_1e4, lN_1e6, lN_1e3, lN_add, lN_mul, lN_ltI, lN_leI, lN_eqI, lN_i, lcE, lcLe, lcLt, lN_div]
  refine d3 hx.all.1.1 ?_
  unfold aDrift at q
  have hx' := hx.q (b := inN x (cn st 6) && inN y (cn st 0))
  try simp (disch := omega) only [hx.all, hx'.all, wr_s, in_nI, clN, ti_z, ti_l, true_and, and_true, kI, zI, rI, kL, zL, rL, kR, zR, nnI, nnL, nnR, iL, iR, lI, lR, exi, exl, exv, eq_self, nI_add, nI_mul, nI_sub, nI_ltI, nI_leI, nI_eq, q0, q1, q2, q3, q4, q5, q6, q10, q100, br_Tr, br_Fa, iI_s, iI_n, bI_q0, bI_q1, or_true, true_or, not_true_eq_false, not_false_eq_true, nI_l, ge64, Nat.lt_irrefl, Nat.add_sub_cancel, Nat.not_lt_zero, lN_0, lN_1e4, lN_1e6, lN_1e3, lN_add, lN_mul, lN_ltI, lN_leI, lN_eqI, lN_i, lcE, lcLe, lcLt, lN_div]
  cases hc : (inN x (cn st 6) && inN y (cn st 0))
  · rw [hc] at q hx'
    exact ax_brt rfl (q _ ((Out.refl _ _ _).I (by omega) (by omega)) ⟨L, M, hx'⟩)
  · rw [hc] at q hx'
    simp only [Bool.and_eq_true] at hc
    obtain ⟨o, ho, rfl⟩ := inN_t (by omega) hc.1
    obtain ⟨m, hm, rfl⟩ := inN_t (by omega) hc.2
    obtain ⟨ht, he⟩ := hx.tn hm
    have hba := ht.bd
    rw [cl_nI (by omega), cl_nI (by omega)] at q
    refine ax_brf (by decide) ?_
    refine d136 (ht.t9 (by omega)).1.1.1.1 (by omega) ?_
    try simp (disch := omega) only [hx.all, ht.1.1.1.1.1.2.1.all, ht.1.1.1.1.1.2.2.1, ht.1.1.1.1.1.2.2.2.1.1.all, ht.1.1.1.1.1.2.2.2.1.all, ht.1.1.1.1.tab, ht.1.1.1.2, ht.1.1.2, ht.1.2.1.all, ht.1.2.2.1, ht.2, q1e4, wr_s, in_nI, clN, ti_z, ti_l, true_and, and_true, kI, zI, rI, kL, zL, rL, kR, zR, nnI, nnL, nnR, iL, iR, lI, lR, exi, exl, exv, eq_self, nI_add, nI_mul, nI_ltI, nI_leI, nI_eq, q0, q1, q2, q3, q4, q5, q6, q10, q100, br_Tr, br_Fa, iI_s, iI_n, bI_q0, bI_q1, or_true, true_or, not_true_eq_false, not_false_eq_true, nI_l, ge64, Nat.lt_irrefl, Nat.add_sub_cancel, Nat.not_lt_zero, lN_0, lN_1e4, lN_1e6, lN_1e3, lN_add, lN_mul, lN_ltI, lN_leI, lN_eqI, lN_i, lcE, lcLe, lcLt, lN_div]
    cases hT : isBk (ldo st) m
    · rw [hT] at q
      refine ax_brt rfl ?_
      rw [sI_sI]
      exact (q _ ((Out.refl _ _ _).I (by omega) (by omega)) ⟨L, M, hx.tr (t := 5) (by decide) (by decide)⟩)
    · rw [hT] at q; exact ax_brf (by decide) (q _ ((Out.refl _ _ _).I (by omega) (by omega)) ⟨L, M, hx'⟩)
def hasV (a : Ld) (o : Nat) (w : Int32) : Bool := if w = nI 0 then hs0 a o else if w = nI 1 then hs1 a o else hs2 a o
def aHas (st : St) (x w : Int32) : Int32 × St := aQ (inN x (cn st 6) && inN w 3) st (bI (hasV (ldo st) (cl x) w))
theorem inN3 {x : Int32} {n : Nat} (hn : n < 2 ^ 31 - 1) : (x < nI (n + 1)) = (x ≤ nI n) := by
  rw [Int32.lt_iff_toInt_lt, Int32.le_iff_toInt_le, nI_toInt (by omega), nI_toInt (by omega)]
  exact propext (by omega)
theorem p207 {x w : Int32} {K : Int32 → ax_M → Prop} (hx : X μ st) (q : ∀ μ', Out 64 332 μ μ' → X μ' (aHas st x w).2 → K (aHas st x w).1 μ') : ax_CI l G 207 [ax_r (some 64), ax_i x, ax_i w] μ K := by
  obtain ⟨L, M, hx⟩ := hx
  have hb := hx.bd
  unfold aHas aQ at q
  have fin : ∀ b : Bool, b = (inN x (cn st 6) && inN w 3) → (ax_Rw l G ax_h207 (ax_E G ax_h207 (fun x μ' => ∃ v : Int32, x = some (ax_i v) ∧ K v μ')) 26 [(0, ax_r (some 64)), (1, ax_i x), (2, ax_i w)] [ax_i (bI b), ax_r (some 64)] 0 0 μ) := by
    intro b hbb
    refine sg207_26 l G _ 64 _ _ _ _ _ ?_
    try simp (disch := omega) only [hx.all, wr_s, in_nI, clN, ti_z, ti_l, true_and, and_true, kI, zI, rI, kL, zL, rL, kR, zR, nnI, nnL, nnR, iL, iR, lI, lR, exi, exl, exv, eq_self, nI_add, nI_mul, nI_sub, nI_ltI, nI_leI, nI_eq, q0, q1, q2, q3, q4, q5, q6, q10, q100, br_Tr, br_Fa, iI_s, iI_n, bI_q0, bI_q1, or_true, true_or, not_true_eq_false, not_false_eq_true, nI_l, ge64, Nat.lt_irrefl, Nat.add_sub_cancel, Nat.not_lt_zero, lN_0, lN_1e4, lN_1e6, lN_1e3, lN_add, lN_mul, lN_ltI, lN_leI, lN_eqI, lN_i, lcE, lcLe, lcLt, lN_div]
    refine d3 hx.all.1.1 ?_
    have hx' := hx.q (b := b)
    try simp (disch := omega) only [hx.all, wr_s, in_nI, clN, ti_z, ti_l, true_and, and_true, kI, zI, rI, kL, zL, rL, kR, zR, nnI, nnL, nnR, iL, iR, lI, lR, exi, exl, exv, eq_self, nI_add, nI_mul, nI_sub, nI_ltI, nI_leI, nI_eq, q0, q1, q2, q3, q4, q5, q6, q10, q100, br_Tr, br_Fa, iI_s, iI_n, bI_q0, bI_q1, or_true, true_or, not_true_eq_false, not_false_eq_true, nI_l, ge64, Nat.lt_irrefl, Nat.add_sub_cancel, Nat.not_lt_zero, lN_0, lN_1e4, lN_1e6, lN_1e3, lN_add, lN_mul, lN_ltI, lN_leI, lN_eqI, lN_i, lcE, lcLe, lcLt, lN_div]
    rw [← hbb] at q
    cases b
    · exact ax_brt rfl (q _ ((Out.refl _ _ _).I (by omega) (by omega)) ⟨L, M, hx'⟩)
    · refine ax_brf (by decide) ?_
      have hbb := hbb.symm
      simp only [Bool.and_eq_true] at hbb
      obtain ⟨o, ho, rfl⟩ := inN_t (by omega) hbb.1
      obtain ⟨ht, he⟩ := hx.tn ho
      have hba := ht.bd
      have ht9 := ht.t9 (v := nI (!true).toNat) (by omega)
      rw [cl_nI (by omega)] at q
      unfold hasV at q
      refine ax_brc (fun h => ?_) (fun h => ?_)
      · rw [if_pos h] at q
        refine d178 ht9 (by omega) ?_
        try simp (disch := omega) only [wr_s, in_nI, clN, ti_z, ti_l, true_and, and_true, kI, zI, rI, kL, zL, rL, kR, zR, nnI, nnL, nnR, iL, iR, lI, lR, exi, exl, exv, eq_self, nI_add, nI_mul, nI_sub, nI_ltI, nI_leI, nI_eq, q0, q1, q2, q3, q4, q5, q6, q10, q100, br_Tr, br_Fa, iI_s, iI_n, bI_q0, bI_q1, or_true, true_or, not_true_eq_false, not_false_eq_true, nI_l, ge64, Nat.lt_irrefl, Nat.add_sub_cancel, Nat.not_lt_zero, lN_0, lN_1e4, lN_1e6, lN_1e3, lN_add, lN_mul, lN_ltI, lN_leI, lN_eqI, lN_i, lcE, lcLe, lcLt, lN_div]
        cases hT : hs0 (ldo st) o
        · rw [hT] at q; exact ax_brt rfl (q _ ((Out.refl _ _ _).I (by omega) (by omega)) ⟨L, M, hx'⟩)
        · rw [hT] at q; exact ax_brf (by decide) (q _ ((Out.refl _ _ _).I (by omega) (by omega)) ⟨L, M, hx'⟩)
      · rw [if_neg h] at q
        refine ax_brc (fun h => ?_) (fun h => ?_)
        · rw [if_pos h] at q
          refine d104 ht9 (by omega) ?_
          try simp (disch := omega) only [wr_s, in_nI, clN, ti_z, ti_l, true_and, and_true, kI, zI, rI, kL, zL, rL, kR, zR, nnI, nnL, nnR, iL, iR, lI, lR, exi, exl, exv, eq_self, nI_add, nI_mul, nI_sub, nI_ltI, nI_leI, nI_eq, q0, q1, q2, q3, q4, q5, q6, q10, q100, br_Tr, br_Fa, iI_s, iI_n, bI_q0, bI_q1, or_true, true_or, not_true_eq_false, not_false_eq_true, nI_l, ge64, Nat.lt_irrefl, Nat.add_sub_cancel, Nat.not_lt_zero, lN_0, lN_1e4, lN_1e6, lN_1e3, lN_add, lN_mul, lN_ltI, lN_leI, lN_eqI, lN_i, lcE, lcLe, lcLt, lN_div]
          cases hT : hs1 (ldo st) o
          · rw [hT] at q; exact ax_brt rfl (q _ ((Out.refl _ _ _).I (by omega) (by omega)) ⟨L, M, hx'⟩)
          · rw [hT] at q; exact ax_brf (by decide) (q _ ((Out.refl _ _ _).I (by omega) (by omega)) ⟨L, M, hx'⟩)
        · rw [if_neg h] at q
          refine d200 ht9 (by omega) ?_
          try simp (disch := omega) only [wr_s, in_nI, clN, ti_z, ti_l, true_and, and_true, kI, zI, rI, kL, zL, rL, kR, zR, nnI, nnL, nnR, iL, iR, lI, lR, exi, exl, exv, eq_self, nI_add, nI_mul, nI_sub, nI_ltI, nI_leI, nI_eq, q0, q1, q2, q3, q4, q5, q6, q10, q100, br_Tr, br_Fa, iI_s, iI_n, bI_q0, bI_q1, or_true, true_or, not_true_eq_false, not_false_eq_true, nI_l, ge64, Nat.lt_irrefl, Nat.add_sub_cancel, Nat.not_lt_zero, lN_0, lN_1e4, lN_1e6, lN_1e3, lN_add, lN_mul, lN_ltI, lN_leI, lN_eqI, lN_i, lcE, lcLe, lcLt, lN_div]
          cases hT : hs2 (ldo st) o
          · rw [hT] at q; exact ax_brt rfl (q _ ((Out.refl _ _ _).I (by omega) (by omega)) ⟨L, M, hx'⟩)
          · rw [hT] at q; exact ax_brf (by decide) (q _ ((Out.refl _ _ _).I (by omega) (by omega)) ⟨L, M, hx'⟩)
  refine ax_Ct.of (by decide) (Nat.le_of_ble_eq_true rfl) (sg207_0 l G _ 64 _ _ _ ?_)
  try simp (disch := omega) only [hx.all, wr_s, in_nI, clN, ti_z, ti_l, true_and, and_true, kI, zI, rI, kL, zL, rL, kR, zR, nnI, nnL, nnR, iL, iR, lI, lR, exi, exl, exv, eq_self, nI_add, nI_mul, nI_sub, nI_ltI, nI_leI, nI_eq, q0, q1, q2, q3, q4, q5, q6, q10, q100, br_Tr, br_Fa, iI_s, iI_n, bI_q0, bI_q1, or_true, true_or, not_true_eq_false, not_false_eq_true, nI_l, ge64, Nat.lt_irrefl, Nat.add_sub_cancel, Nat.not_lt_zero, lN_0, lN_1e4, lN_1e6, lN_1e3, lN_add, lN_mul, lN_ltI, lN_leI, lN_eqI, lN_i, lcE, lcLe, lcLt, lN_div]
  refine d24 hx.all.2.1.2.2.2.2.1 hx.all.2.2.2.2.2.2.2.2.2 ?_
  try simp (disch := omega) only [hx.all, wr_s, in_nI, clN, ti_z, ti_l, true_and, and_true, kI, zI, rI, kL, zL, rL, kR, zR, nnI, nnL, nnR, iL, iR, lI, lR, exi, exl, exv, eq_self, nI_add, nI_mul, nI_sub, nI_ltI, nI_leI, nI_eq, q0, q1, q2, q3, q4, q5, q6, q10, q100, br_Tr, br_Fa, iI_s, iI_n, bI_q0, bI_q1, or_true, true_or, not_true_eq_false, not_false_eq_true, nI_l, ge64, Nat.lt_irrefl, Nat.add_sub_cancel, Nat.not_lt_zero, lN_0, lN_1e4, lN_1e6, lN_1e3, lN_add, lN_mul, lN_ltI, lN_leI, lN_eqI, lN_i, lcE, lcLe, lcLt, lN_div]
  cases h1 : inN x (cn st 6)
  · exact ax_brt rfl (fin false (by rw [h1]; rfl))
  · refine ax_brf (by decide) ?_
    rw [← inN3 (n := 2) (by omega)]
    exact inN_br (fun h => fin true (by rw [h1, h]; rfl)) (fun h => fin false (by rw [h1, h]; rfl))
def aInstead (st : St) (x y z : Int32) : Int32 × St := aQ ((inN x (cn st 5) && inN y (cn st 0)) && (decide (z = nI 0) || decide (z = nI 1))) st (if z = nI 0 then nI (rat (cst (ldo st) (cl x) 0 (cl y)) (cst (ldo st) (cl x) 0 0)) else nI (rat (cst (ldo st) (cl x) (cl y) (cl y)) (cst (ldo st) (cl x) (cl y) 0)))
theorem p164 {x y z : Int32} {K : Int32 → ax_M → Prop} (hx : X μ st) (q : ∀ μ', Out 64 332 μ μ' → X μ' (aInstead st x y z).2 → K (aInstead st x y z).1 μ') : ax_CI l G 164 [ax_r (some 64), ax_i x, ax_i y, ax_i z] μ K := by
  obtain ⟨L, M, hx⟩ := hx
  have hb := hx.bd
  unfold aInstead aQ at q
  have fin : ∀ b : Bool, b = ((inN x (cn st 5) && inN y (cn st 0)) && (decide (z = nI 0) || decide (z = nI 1))) → (ax_Rw l G ax_h164 (ax_E G ax_h164 (fun x μ' => ∃ v : Int32, x = some (ax_i v) ∧ K v μ')) 24 [(0, ax_r (some 64)), (1, ax_i x), (2, ax_i y), (3, ax_i z)] [ax_i (bI b), ax_r (some 64)] 0 0 μ) := by
    intro b hbb
    refine sg164_24 l G _ 64 _ _ _ _ _ _ ?_
    try simp (disch := omega) only [hx.all, wr_s, in_nI, clN, ti_z, ti_l, true_and, and_true, kI, zI, rI, kL, zL, rL, kR, zR, nnI, nnL, nnR, iL, iR, lI, lR, exi, exl, exv, eq_self, nI_add, nI_mul, nI_sub, nI_ltI, nI_leI, nI_eq, q0, q1, q2, q3, q4, q5, q6, q10, q100, br_Tr, br_Fa, iI_s, iI_n, bI_q0, bI_q1, or_true, true_or, not_true_eq_false, not_false_eq_true, nI_l, ge64, Nat.lt_irrefl, Nat.add_sub_cancel, Nat.not_lt_zero, lN_0, lN_1e4, lN_1e6, lN_1e3, lN_add, lN_mul, lN_ltI, lN_leI, lN_eqI, lN_i, lcE, lcLe, lcLt, lN_div]
    refine d3 hx.all.1.1 ?_
    have hx' := hx.q (b := b)
    try simp (disch := omega) only [hx.all, wr_s, in_nI, clN, ti_z, ti_l, true_and, and_true, kI, zI, rI, kL, zL, rL, kR, zR, nnI, nnL, nnR, iL, iR, lI, lR, exi, exl, exv, eq_self, nI_add, nI_mul, nI_sub, nI_ltI, nI_leI, nI_eq, q0, q1, q2, q3, q4, q5, q6, q10, q100, br_Tr, br_Fa, iI_s, iI_n, bI_q0, bI_q1, or_true, true_or, not_true_eq_false, not_false_eq_true, nI_l, ge64, Nat.lt_irrefl, Nat.add_sub_cancel, Nat.not_lt_zero, lN_0, lN_1e4, lN_1e6, lN_1e3, lN_add, lN_mul, lN_ltI, lN_leI, lN_eqI, lN_i, lcE, lcLe, lcLt, lN_div]
    rw [← hbb] at q
    cases b
    · exact ax_brt rfl (q _ ((Out.refl _ _ _).I (by omega) (by omega)) ⟨L, M, hx'⟩)
    · refine ax_brf (by decide) ?_
      have hbb := hbb.symm
      simp only [Bool.and_eq_true] at hbb
      obtain ⟨h, hh, rfl⟩ := inN_t (by omega) hbb.1.1
      obtain ⟨m, hm, rfl⟩ := inN_t (by omega) hbb.1.2
      obtain ⟨ht, he⟩ := hx.tn hh
      have hba := ht.bd
      have ht9 := ht.t9 (v := nI (!true).toNat) (by omega)
      rw [cl_nI (by omega), cl_nI (by omega)] at q
      refine ax_brc (fun h => ?_) (fun h => ?_)
      · rw [if_pos h] at q
        refine d134 ht9.1.1.1 (by omega) (by omega) ?_
        exact (q _ ((Out.refl _ _ _).I (by omega) (by omega)) ⟨L, M, hx'⟩)
      · rw [if_neg h] at q
        refine d137 ht9.1.1.1 (by omega) (by omega) ?_
        exact (q _ ((Out.refl _ _ _).I (by omega) (by omega)) ⟨L, M, hx'⟩)
  refine ax_Ct.of (by decide) (Nat.le_of_ble_eq_true rfl) (sg164_0 l G _ 64 _ _ _ _ ?_)
  try simp (disch := omega) only [hx.all, wr_s, in_nI, clN, ti_z, ti_l, true_and, and_true, kI, zI, rI, kL, zL, rL, kR, zR, nnI, nnL, nnR, iL, iR, lI, lR, exi, exl, exv, eq_self, nI_add, nI_mul, nI_sub, nI_ltI, nI_leI, nI_eq, q0, q1, q2, q3, q4, q5, q6, q10, q100, br_Tr, br_Fa, iI_s, iI_n, bI_q0, bI_q1, or_true, true_or, not_true_eq_false, not_false_eq_true, nI_l, ge64, Nat.lt_irrefl, Nat.add_sub_cancel, Nat.not_lt_zero, lN_0, lN_1e4, lN_1e6, lN_1e3, lN_add, lN_mul, lN_ltI, lN_leI, lN_eqI, lN_i, lcE, lcLe, lcLt, lN_div]
  refine d83 hx ?_
  try simp (disch := omega) only [hx.all, wr_s, in_nI, clN, ti_z, ti_l, true_and, and_true, kI, zI, rI, kL, zL, rL, kR, zR, nnI, nnL, nnR, iL, iR, lI, lR, exi, exl, exv, eq_self, nI_add, nI_mul, nI_sub, nI_ltI, nI_leI, nI_eq, q0, q1, q2, q3, q4, q5, q6, q10, q100, br_Tr, br_Fa, iI_s, iI_n, bI_q0, bI_q1, or_true, true_or, not_true_eq_false, not_false_eq_true, nI_l, ge64, Nat.lt_irrefl, Nat.add_sub_cancel, Nat.not_lt_zero, lN_0, lN_1e4, lN_1e6, lN_1e3, lN_add, lN_mul, lN_ltI, lN_leI, lN_eqI, lN_i, lcE, lcLe, lcLt, lN_div]
  cases h1 : (inN x (cn st 5) && inN y (cn st 0))
  · exact ax_brt rfl (fin false (by rw [h1]; rfl))
  · refine ax_brf (by decide) ?_
    refine ax_brc (fun h => fin true (by rw [h1]; simp [h])) (fun h => ?_)
    exact ax_brc (fun h2 => fin true (by rw [h1]; simp [h2])) (fun h2 => fin false (by rw [h1]; simp [h, h2]))
theorem q999' : (999 : Int32) = nI 999 := q999
theorem d10 {b : Bool} {x : Int32} {K : Int32 → ax_M → Prop} (q : K (nI (cond b (cond (inN x 1000) 0 2) 1)) μ) : ax_CI l G 10 [ax_i (bI b), ax_i x] μ K := by
  refine ax_Ct.of (by decide) (Nat.le_of_ble_eq_true rfl) (sg10_0 l G _ _ _ _ ?_)
  try simp (disch := omega) only [q999, wr_s, in_nI, clN, ti_z, ti_l, true_and, and_true, kI, zI, rI, kL, zL, rL, kR, zR, nnI, nnL, nnR, iL, iR, lI, lR, exi, exl, exv, eq_self, nI_add, nI_mul, nI_sub, nI_ltI, nI_leI, nI_eq, q0, q1, q2, q3, q4, q5, q6, q10, q100, br_Tr, br_Fa, iI_s, iI_n, bI_q0, bI_q1, or_true, true_or, not_true_eq_false, not_false_eq_true, nI_l, ge64, Nat.lt_irrefl, Nat.add_sub_cancel, Nat.not_lt_zero, lN_0, lN_1e4, lN_1e6, lN_1e3, lN_add, lN_mul, lN_ltI, lN_leI, lN_eqI, lN_i, lcE, lcLe, lcLt, lN_div]
  cases b
  · exact ax_brt rfl q
  · refine ax_brf (by decide) ?_
    rw [← inN3 (n := 999) (by omega)]
    exact inN_br (fun h => by rw [h] at q; exact q) (fun h => by rw [h] at q; exact q)
def aWorths (st : St) (x y z : Int32) : Int32 × St := cond (inN x (cn st 1) && inN y (cn st 0)) (cond (inN z 1000) (nI (cntW (ldo st) (cl x) (cl y) (cl z)), sT st 0) (-nI 1, sT st 2)) (-nI 1, sT st 1)
theorem p168 {x y z : Int32} {K : Int32 → ax_M → Prop} (hx : X μ st) (q : ∀ μ', Out 64 332 μ μ' → X μ' (aWorths st x y z).2 → K (aWorths st x y z).1 μ') : ax_CI l G 168 [ax_r (some 64), ax_i x, ax_i y, ax_i z] μ K := by
  obtain ⟨L, M, hx⟩ := hx
  have hb := hx.bd
  unfold aWorths at q
  refine ax_Ct.of (by decide) (Nat.le_of_ble_eq_true rfl) (sg168_0 l G _ 64 _ _ _ _ ?_)
  try simp (disch := omega) only [hx.all, wr_s, in_nI, clN, ti_z, ti_l, true_and, and_true, kI, zI, rI, kL, zL, rL, kR, zR, nnI, nnL, nnR, iL, iR, lI, lR, exi, exl, exv, eq_self, nI_add, nI_mul, nI_sub, nI_ltI, nI_leI, nI_eq, q0, q1, q2, q3, q4, q5, q6, q10, q100, br_Tr, br_Fa, iI_s, iI_n, bI_q0, bI_q1, or_true, true_or, not_true_eq_false, not_false_eq_true, nI_l, ge64, Nat.lt_irrefl, Nat.add_sub_cancel, Nat.not_lt_zero, lN_0, lN_1e4, lN_1e6, lN_1e3, lN_add, lN_mul, lN_ltI, lN_leI, lN_eqI, lN_i, lcE, lcLe, lcLt, lN_div]
  refine d20 hx.all.2.1.2.2.2.2.1 hx.all.2.2.2.2.1 ?_
  try simp (disch := omega) only [hx.all, wr_s, in_nI, clN, ti_z, ti_l, true_and, and_true, kI, zI, rI, kL, zL, rL, kR, zR, nnI, nnL, nnR, iL, iR, lI, lR, exi, exl, exv, eq_self, nI_add, nI_mul, nI_sub, nI_ltI, nI_leI, nI_eq, q0, q1, q2, q3, q4, q5, q6, q10, q100, br_Tr, br_Fa, iI_s, iI_n, bI_q0, bI_q1, or_true, true_or, not_true_eq_false, not_false_eq_true, nI_l, ge64, Nat.lt_irrefl, Nat.add_sub_cancel, Nat.not_lt_zero, lN_0, lN_1e4, lN_1e6, lN_1e3, lN_add, lN_mul, lN_ltI, lN_leI, lN_eqI, lN_i, lcE, lcLe, lcLt, lN_div]
  cases h1 : inN x (cn st 1)
  · rw [h1] at q
    refine ax_brt rfl ?_
    refine d10 (b := false) ?_
    try simp (disch := omega) only [hx.all, cond_false, wr_s, in_nI, clN, ti_z, ti_l, true_and, and_true, kI, zI, rI, kL, zL, rL, kR, zR, nnI, nnL, nnR, iL, iR, lI, lR, exi, exl, exv, eq_self, nI_add, nI_mul, nI_sub, nI_ltI, nI_leI, nI_eq, q0, q1, q2, q3, q4, q5, q6, q10, q100, br_Tr, br_Fa, iI_s, iI_n, bI_q0, bI_q1, or_true, true_or, not_true_eq_false, not_false_eq_true, nI_l, ge64, Nat.lt_irrefl, Nat.add_sub_cancel, Nat.not_lt_zero, lN_0, lN_1e4, lN_1e6, lN_1e3, lN_add, lN_mul, lN_ltI, lN_leI, lN_eqI, lN_i, lcE, lcLe, lcLt, lN_div]
    refine ax_brf (by decide) ?_
    refine d5 hx.all.1.1 ?_
    exact (q _ ((Out.refl _ _ _).I (by omega) (by omega)) ⟨L, M, hx.tr (by decide) (by decide)⟩)
  · rw [h1] at q
    refine ax_brf (by decide) ?_
    refine d23 hx.all.2.1.2.2.2.2.1 hx.all.2.2.2.1 ?_
    try simp (disch := omega) only [hx.all, wr_s, in_nI, clN, ti_z, ti_l, true_and, and_true, kI, zI, rI, kL, zL, rL, kR, zR, nnI, nnL, nnR, iL, iR, lI, lR, exi, exl, exv, eq_self, nI_add, nI_mul, nI_sub, nI_ltI, nI_leI, nI_eq, q0, q1, q2, q3, q4, q5, q6, q10, q100, br_Tr, br_Fa, iI_s, iI_n, bI_q0, bI_q1, or_true, true_or, not_true_eq_false, not_false_eq_true, nI_l, ge64, Nat.lt_irrefl, Nat.add_sub_cancel, Nat.not_lt_zero, lN_0, lN_1e4, lN_1e6, lN_1e3, lN_add, lN_mul, lN_ltI, lN_leI, lN_eqI, lN_i, lcE, lcLe, lcLt, lN_div]
    cases h2 : inN y (cn st 0)
    · rw [h2] at q
      refine ax_brt rfl ?_
      refine d10 (b := false) ?_
      try simp (disch := omega) only [hx.all, cond_false, wr_s, in_nI, clN, ti_z, ti_l, true_and, and_true, kI, zI, rI, kL, zL, rL, kR, zR, nnI, nnL, nnR, iL, iR, lI, lR, exi, exl, exv, eq_self, nI_add, nI_mul, nI_sub, nI_ltI, nI_leI, nI_eq, q0, q1, q2, q3, q4, q5, q6, q10, q100, br_Tr, br_Fa, iI_s, iI_n, bI_q0, bI_q1, or_true, true_or, not_true_eq_false, not_false_eq_true, nI_l, ge64, Nat.lt_irrefl, Nat.add_sub_cancel, Nat.not_lt_zero, lN_0, lN_1e4, lN_1e6, lN_1e3, lN_add, lN_mul, lN_ltI, lN_leI, lN_eqI, lN_i, lcE, lcLe, lcLt, lN_div]
      refine ax_brf (by decide) ?_
      refine d5 hx.all.1.1 ?_
      exact (q _ ((Out.refl _ _ _).I (by omega) (by omega)) ⟨L, M, hx.tr (by decide) (by decide)⟩)
    · rw [h2] at q
      refine ax_brf (by decide) ?_
      refine d10 (b := true) ?_
      try simp (disch := omega) only [hx.all, wr_s, in_nI, clN, ti_z, ti_l, true_and, and_true, kI, zI, rI, kL, zL, rL, kR, zR, nnI, nnL, nnR, iL, iR, lI, lR, exi, exl, exv, eq_self, nI_add, nI_mul, nI_sub, nI_ltI, nI_leI, nI_eq, q0, q1, q2, q3, q4, q5, q6, q10, q100, br_Tr, br_Fa, iI_s, iI_n, bI_q0, bI_q1, or_true, true_or, not_true_eq_false, not_false_eq_true, nI_l, ge64, Nat.lt_irrefl, Nat.add_sub_cancel, Nat.not_lt_zero, lN_0, lN_1e4, lN_1e6, lN_1e3, lN_add, lN_mul, lN_ltI, lN_leI, lN_eqI, lN_i, lcE, lcLe, lcLt, lN_div]
      cases h3 : inN z 1000
      · rw [h3] at q
        refine ax_brf (by decide) ?_
        refine d5 hx.all.1.1 ?_
        exact (q _ ((Out.refl _ _ _).I (by omega) (by omega)) ⟨L, M, hx.tr (by decide) (by decide)⟩)
      · rw [h3] at q
        refine ax_brt rfl ?_
        obtain ⟨g, hg, rfl⟩ := inN_t (by omega) h1
        obtain ⟨m, hm, rfl⟩ := inN_t (by omega) h2
        obtain ⟨t, htt, rfl⟩ := inN_t (by omega) h3
        obtain ⟨ht, he⟩ := hx.tn hm
        have hba := ht.bd
        rw [cl_nI (by omega), cl_nI (by omega), cl_nI (by omega)] at q
        refine d132 (ht.t9 (by omega)).1.1.1.1 (by omega) (by omega) (by omega) ?_
        exact (q _ ((Out.refl _ _ _).I (by omega) (by omega)) ⟨L, M, hx.tr (by decide) (by decide)⟩)
def aSpan (st : St) (x y z w : Int32) (mo : Bool) : Int32 × St := cond ((inN x (cn st 1) && inN y (cn st 0)) && (decide (w = nI 0) || decide (w = nI 1))) (cond (inN z 1000) (match endO (ldo st) (cl x) (cl y) (cl z) (cl w) mo 21 with
  | none => (-nI 1, sT st 6)
  | some v => (nI v, sT st 0)) (-nI 1, sT st 2)) (-nI 1, sT st 1)
theorem p166 {x y z w : Int32} {mo : Bool} {K : Int32 → ax_M → Prop} (hx : X μ st) (q : ∀ μ', Out 64 332 μ μ' → X μ' (aSpan st x y z w mo).2 → K (aSpan st x y z w mo).1 μ') : ax_CI l G 166 [ax_r (some 64), ax_i x, ax_i y, ax_i z, ax_i w, ax_i (bI mo)] μ K := by
  obtain ⟨L, M, hx⟩ := hx
  have hb := hx.bd
  unfold aSpan at q
  have fin : ∀ b : Bool, b = ((inN x (cn st 1) && inN y (cn st 0)) && (decide (w = nI 0) || decide (w = nI 1))) → (ax_Rw l G ax_h166 (ax_E G ax_h166 (fun x μ' => ∃ v : Int32, x = some (ax_i v) ∧ K v μ')) 38 [(0, ax_r (some 64)), (1, ax_i x), (2, ax_i y), (3, ax_i z), (4, ax_i w), (5, ax_i (bI mo))] [ax_i (bI b)] 0 0 μ) := by
    intro b hbb
    rw [← hbb] at q
    refine sg166_38 l G _ 64 _ _ _ _ _ _ _ ?_
    refine d10 ?_
    try simp (disch := omega) only [hx.all, wr_s, in_nI, clN, ti_z, ti_l, true_and, and_true, kI, zI, rI, kL, zL, rL, kR, zR, nnI, nnL, nnR, iL, iR, lI, lR, exi, exl, exv, eq_self, nI_add, nI_mul, nI_sub, nI_ltI, nI_leI, nI_eq, q0, q1, q2, q3, q4, q5, q6, q10, q100, br_Tr, br_Fa, iI_s, iI_n, bI_q0, bI_q1, or_true, true_or, not_true_eq_false, not_false_eq_true, nI_l, ge64, Nat.lt_irrefl, Nat.add_sub_cancel, Nat.not_lt_zero, lN_0, lN_1e4, lN_1e6, lN_1e3, lN_add, lN_mul, lN_ltI, lN_leI, lN_eqI, lN_i, lcE, lcLe, lcLt, lN_div]
    cases b
    · simp only [cond_false]
      refine ax_brf (by decide) ?_
      refine d5 hx.all.1.1 ?_
      exact (q _ ((Out.refl _ _ _).I (by omega) (by omega)) ⟨L, M, hx.tr (by decide) (by decide)⟩)
    · cases h3 : inN z 1000
      · rw [h3] at q
        refine ax_brf (by decide) ?_
        refine d5 hx.all.1.1 ?_
        exact (q _ ((Out.refl _ _ _).I (by omega) (by omega)) ⟨L, M, hx.tr (by decide) (by decide)⟩)
      · rw [h3] at q
        refine ax_brt rfl ?_
        have hbb := hbb.symm
        simp only [Bool.and_eq_true] at hbb
        obtain ⟨g, hg, rfl⟩ := inN_t (by omega) hbb.1.1
        obtain ⟨m, hm, rfl⟩ := inN_t (by omega) hbb.1.2
        obtain ⟨t, htt, rfl⟩ := inN_t (by omega) h3
        obtain ⟨ht, he⟩ := hx.tn hm
        have hba := ht.bd
        obtain ⟨v, hv, rfl⟩ : ∃ v, v < 2 ∧ w = nI v := by
          have := hbb.2
          simp only [Bool.or_eq_true, decide_eq_true_eq] at this
          rcases this with h | h
          · exact ⟨0, by omega, h⟩
          · exact ⟨1, by omega, h⟩
        rw [cl_nI (by omega), cl_nI (by omega), cl_nI (by omega), cl_nI (by omega)] at q
        refine d133 ht.1.1.1.1 (by omega) (by omega) (by omega) hv ?_
        have hin := endO_in (a := ldo st) (g := g) (m := m) (o := t) (w := v) (mo := mo) 21 (by omega)
        try simp (disch := omega) only [hx.all, wr_s, in_nI, clN, ti_z, ti_l, true_and, and_true, kI, zI, rI, kL, zL, rL, kR, zR, nnI, nnL, nnR, iL, iR, lI, lR, exi, exl, exv, eq_self, nI_add, nI_mul, nI_sub, nI_ltI, nI_leI, nI_eq, q0, q1, q2, q3, q4, q5, q6, q10, q100, br_Tr, br_Fa, iI_s, iI_n, bI_q0, bI_q1, or_true, true_or, not_true_eq_false, not_false_eq_true, nI_l, ge64, Nat.lt_irrefl, Nat.add_sub_cancel, Nat.not_lt_zero, lN_0, lN_1e4, lN_1e6, lN_1e3, lN_add, lN_mul, lN_ltI, lN_leI, lN_eqI, lN_i, lcE, lcLe, lcLt, lN_div]
        rw [enc_neN (fun b h => by have := hin b h; omega)]
        cases hE : endO (ldo st) g m t v mo 21 with
        | none =>
          rw [hE] at q
          refine ax_brt rfl ?_
          refine d5 hx.all.1.1 ?_
          exact (q _ ((Out.refl _ _ _).I (by omega) (by omega)) ⟨L, M, hx.tr (by decide) (by decide)⟩)
        | some e =>
          rw [hE] at q
          refine ax_brf (fun h => by cases h) ?_
          exact (q _ ((Out.refl _ _ _).I (by omega) (by omega)) ⟨L, M, hx.tr (by decide) (by decide)⟩)
  refine ax_Ct.of (by decide) (Nat.le_of_ble_eq_true rfl) (sg166_0 l G _ 64 _ _ _ _ _ _ ?_)
  try simp (disch := omega) only [hx.all, wr_s, in_nI, clN, ti_z, ti_l, true_and, and_true, kI, zI, rI, kL, zL, rL, kR, zR, nnI, nnL, nnR, iL, iR, lI, lR, exi, exl, exv, eq_self, nI_add, nI_mul, nI_sub, nI_ltI, nI_leI, nI_eq, q0, q1, q2, q3, q4, q5, q6, q10, q100, br_Tr, br_Fa, iI_s, iI_n, bI_q0, bI_q1, or_true, true_or, not_true_eq_false, not_false_eq_true, nI_l, ge64, Nat.lt_irrefl, Nat.add_sub_cancel, Nat.not_lt_zero, lN_0, lN_1e4, lN_1e6, lN_1e3, lN_add, lN_mul, lN_ltI, lN_leI, lN_eqI, lN_i, lcE, lcLe, lcLt, lN_div]
  refine d20 hx.all.2.1.2.2.2.2.1 hx.all.2.2.2.2.1 ?_
  try simp (disch := omega) only [hx.all, wr_s, in_nI, clN, ti_z, ti_l, true_and, and_true, kI, zI, rI, kL, zL, rL, kR, zR, nnI, nnL, nnR, iL, iR, lI, lR, exi, exl, exv, eq_self, nI_add, nI_mul, nI_sub, nI_ltI, nI_leI, nI_eq, q0, q1, q2, q3, q4, q5, q6, q10, q100, br_Tr, br_Fa, iI_s, iI_n, bI_q0, bI_q1, or_true, true_or, not_true_eq_false, not_false_eq_true, nI_l, ge64, Nat.lt_irrefl, Nat.add_sub_cancel, Nat.not_lt_zero, lN_0, lN_1e4, lN_1e6, lN_1e3, lN_add, lN_mul, lN_ltI, lN_leI, lN_eqI, lN_i, lcE, lcLe, lcLt, lN_div]
  cases h1 : inN x (cn st 1)
  · exact ax_brt rfl (fin false (by rw [h1]; rfl))
  · refine ax_brf (by decide) ?_
    refine d23 hx.all.2.1.2.2.2.2.1 hx.all.2.2.2.1 ?_
    try simp (disch := omega) only [hx.all, wr_s, in_nI, clN, ti_z, ti_l, true_and, and_true, kI, zI, rI, kL, zL, rL, kR, zR, nnI, nnL, nnR, iL, iR, lI, lR, exi, exl, exv, eq_self, nI_add, nI_mul, nI_sub, nI_ltI, nI_leI, nI_eq, q0, q1, q2, q3, q4, q5, q6, q10, q100, br_Tr, br_Fa, iI_s, iI_n, bI_q0, bI_q1, or_true, true_or, not_true_eq_false, not_false_eq_true, nI_l, ge64, Nat.lt_irrefl, Nat.add_sub_cancel, Nat.not_lt_zero, lN_0, lN_1e4, lN_1e6, lN_1e3, lN_add, lN_mul, lN_ltI, lN_leI, lN_eqI, lN_i, lcE, lcLe, lcLt, lN_div]
    cases h2 : inN y (cn st 0)
    · exact ax_brt rfl (fin false (by rw [h1, h2]; rfl))
    · refine ax_brf (by decide) ?_
      refine ax_brc (fun h => fin true (by rw [h1, h2]; simp [h])) (fun h => ?_)
      exact ax_brc (fun h3 => fin true (by rw [h1, h2]; simp [h3])) (fun h3 => fin false (by rw [h1, h2]; simp [h, h3]))
def inK (x : Int32) (n : Nat) : Bool := decide (¬ x < nI 1) && decide (x ≤ nI n)
theorem inK_L {x : Int32} {n : Nat} (hn : n < 2 ^ 31 - 1) : inK x n = inL x (n + 1) := by unfold inK inL; simp only [inN3 hn]
def aLook (st : St) (k y o : Int32) : Int32 × St := cond (inN o (cn st 6) && inN y (cn st 0)) (cond (inK k (cn st 2)) (e4 (lkK (ldo st) (cl k) (cl y) (cl o) (2 ^ nTh (ldo st))), sT st 0) (-nI 1, sT st 2)) (-nI 1, sT st 1)
theorem XW.frL {μ1 : ax_M} {z : Nat} (h : XW μ st L M) (f : FrL z μ μ1) : XW μ1 st L M := by
  obtain ⟨n, kz, i, lo, r⟩ := μ
  obtain ⟨n1, kz1, i1, lo1, r1⟩ := μ1
  obtain ⟨-, rfl, rfl, rfl, -⟩ : n1 = n ∧ kz1 = kz ∧ i1 = i ∧ r1 = r ∧ _ := f
  exact h
theorem Out.FL {lo hi z : Nat} {μ1 μ2 : ax_M} (h : Out lo hi μ μ1) (f : FrL z μ1 μ2) (h1 : lo ≤ z + 5) (h2 : z + 6 < hi) : Out lo hi μ μ2 :=
  ⟨f.1.trans h.1, fun b hb' => ⟨by rw [f.2.1]; exact (h.2 b hb').1, fun j => ⟨by unfold gI; rw [f.2.2.1]; exact ((h.2 b hb').2 j).1, by rw [f.2.2.2.2 b j (by omega)]; exact ((h.2 b hb').2 j).2.1, by unfold gR; rw [f.2.2.2.1]; exact ((h.2 b hb').2 j).2.2⟩⟩⟩
theorem p208 {k y o : Int32} {K : Int32 → ax_M → Prop} (hx : X μ st) (q : ∀ μ', Out 64 332 μ μ' → X μ' (aLook st k y o).2 → K (aLook st k y o).1 μ') : ax_CI l G 208 [ax_r (some 64), ax_i k, ax_i y, ax_i o] μ K := by
  obtain ⟨L, M, hx⟩ := hx
  have hb := hx.bd
  refine ax_Ct.of (by decide) (Nat.le_of_ble_eq_true rfl) (sg208_0 l G _ 64 _ _ _ _ ?_)
  try simp (disch := omega) only [hx.all, wr_s, in_nI, clN, ti_z, ti_l, true_and, and_true, kI, zI, rI, kL, zL, rL, kR, zR, nnI, nnL, nnR, iL, iR, lI, lR, exi, exl, exv, eq_self, nI_add, nI_mul, nI_sub, nI_ltI, nI_leI, nI_eq, q0, q1, q2, q3, q4, q5, q6, q10, q100, br_Tr, br_Fa, iI_s, iI_n, bI_q0, bI_q1, or_true, true_or, not_true_eq_false, not_false_eq_true, nI_l, ge64, Nat.lt_irrefl, Nat.add_sub_cancel, Nat.not_lt_zero, lN_0, lN_1e4, lN_1e6, lN_1e3, lN_add, lN_mul, lN_ltI, lN_leI, lN_eqI, lN_i, lcE, lcLe, lcLt, lN_div]
  refine d84 hx ?_
  try simp (disch := omega) only [hx.all, wr_s, in_nI, clN, ti_z, ti_l, true_and, and_true, kI, zI, rI, kL, zL, rL, kR, zR, nnI, nnL, nnR, iL, iR, lI, lR, exi, exl, exv, eq_self, nI_add, nI_mul, nI_sub, nI_ltI, nI_leI, nI_eq, q0, q1, q2, q3, q4, q5, q6, q10, q100, br_Tr, br_Fa, iI_s, iI_n, bI_q0, bI_q1, or_true, true_or, not_true_eq_false, not_false_eq_true, nI_l, ge64, Nat.lt_irrefl, Nat.add_sub_cancel, Nat.not_lt_zero, lN_0, lN_1e4, lN_1e6, lN_1e3, lN_add, lN_mul, lN_ltI, lN_leI, lN_eqI, lN_i, lcE, lcLe, lcLt, lN_div]
  refine d3 hx.all.1.1 ?_
  unfold aLook at q
  have hx' := hx.q (b := inN o (cn st 6) && inN y (cn st 0))
  try simp (disch := omega) only [hx.all, hx'.all, wr_s, in_nI, clN, ti_z, ti_l, true_and, and_true, kI, zI, rI, kL, zL, rL, kR, zR, nnI, nnL, nnR, iL, iR, lI, lR, exi, exl, exv, eq_self, nI_add, nI_mul, nI_sub, nI_ltI, nI_leI, nI_eq, q0, q1, q2, q3, q4, q5, q6, q10, q100, br_Tr, br_Fa, iI_s, iI_n, bI_q0, bI_q1, or_true, true_or, not_true_eq_false, not_false_eq_true, nI_l, ge64, Nat.lt_irrefl, Nat.add_sub_cancel, Nat.not_lt_zero, lN_0, lN_1e4, lN_1e6, lN_1e3, lN_add, lN_mul, lN_ltI, lN_leI, lN_eqI, lN_i, lcE, lcLe, lcLt, lN_div]
  cases hc : (inN o (cn st 6) && inN y (cn st 0))
  · rw [hc] at q hx'
    exact ax_brt rfl (q _ ((Out.refl _ _ _).I (by omega) (by omega)) ⟨L, M, hx'⟩)
  · rw [hc] at q hx'
    refine ax_brf (by decide) ?_
    have no : inK k (cn st 2) = false → ax_CI l G 5 [ax_r (some 64), ax_i (nI 2)] (sI μ 64 9 (nI (!true).toNat)) (fun y6 m5 => K y6 m5) := by
      intro hk
      rw [hk] at q
      refine d5 hx'.all.1.1 ?_
      rw [sI_sI]
      exact (q _ ((Out.refl _ _ _).I (by omega) (by omega)) ⟨L, M, hx.tr (t := 2) (by decide) (by decide)⟩)
    refine ax_brc (fun h => no ?_) (fun h => ?_)
    · unfold inK; rw [decide_eq_false (fun q => q h)]; rfl
    · try simp (disch := omega) only [hx.all, iI_n (b := L) (a := 64), wr_s, in_nI, clN, ti_z, ti_l, true_and, and_true, kI, zI, rI, kL, zL, rL, kR, zR, nnI, nnL, nnR, iL, iR, lI, lR, exi, exl, exv, eq_self, nI_add, nI_mul, nI_sub, nI_ltI, nI_leI, nI_eq, q0, q1, q2, q3, q4, q5, q6, q10, q100, br_Tr, br_Fa, iI_s, iI_n, bI_q0, bI_q1, or_true, true_or, not_true_eq_false, not_false_eq_true, nI_l, ge64, Nat.lt_irrefl, Nat.add_sub_cancel, Nat.not_lt_zero, lN_0, lN_1e4, lN_1e6, lN_1e3, lN_add, lN_mul, lN_ltI, lN_leI, lN_eqI, lN_i, lcE, lcLe, lcLt, lN_div]
      refine ax_brc (fun h2 => ?_) (fun h2 => no ?_)
      · have hk : inK k (cn st 2) = true := by unfold inK; rw [decide_eq_true h, decide_eq_true h2]; rfl
        rw [hk] at q
        rw [inK_L (by omega)] at hk
        simp only [Bool.and_eq_true] at hc
        obtain ⟨o, ho, rfl⟩ := inN_t (by omega) hc.1
        obtain ⟨m, hm, rfl⟩ := inN_t (by omega) hc.2
        obtain ⟨k, hk1, hk2, rfl⟩ := inL_t (by omega) hk
        obtain ⟨ht, he⟩ := hx.tn hm
        have hba := ht.bd
        rw [cl_nI (by omega), cl_nI (by omega), cl_nI (by omega)] at q
        refine d198 (ht.t9 (by omega)) hk1 (by omega) (by omega) (by omega) (fun μ' f => ?_)
        exact q _ (((Out.refl _ _ _).I (by omega) (by omega)).FL f (by omega) (by omega)) ⟨L, M, hx'.frL f⟩
      · unfold inK; rw [decide_eq_false h2, Bool.and_false]
end E3
