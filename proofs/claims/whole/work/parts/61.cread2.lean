theorem abs_le {p g o : Nat} (hp : p < 2 ^ 31) (hg : g < 2 ^ 31) (ho : o < 2 ^ 31) : ((if nI 0 ≤ nI p - nI g then nI p - nI g else nI 0 - (nI p - nI g)) ≤ nI o) = (p ≤ g + o ∧ g ≤ p + o) := by
  have h0 : nI 0 ≤ nI p - nI g ↔ g ≤ p := by
    rw [Int32.le_iff_toInt_le, nI_subI hp hg, nI_toInt (by omega)]; omega
  by_cases h : g ≤ p
  · rw [if_pos (h0.mpr h), Int32.le_iff_toInt_le, nI_subI hp hg, nI_toInt ho]
    exact propext (by omega)
  · rw [if_neg (fun q => h (h0.mp q)), Int32.le_iff_toInt_le, Int32.toInt_sub, nI_subI hp hg, nI_toInt ho, nI_toInt (by omega), Int.bmod_eq_of_le (by omega) (by omega)]
    exact propext (by omega)
theorem q20 : (20 : Int32) = nI 20 := by decide +kernel
section C7
variable {l : Launch} {G : ax_G} {μ : ax_M} {c L : Nat} {a : Ld}
theorem d92 {h m : Nat} {K : Int32 → ax_M → Prop} (hc : CB μ c L a) (hh : h < nHo a) (h1 : 1 ≤ m) (hm : m < nMo a) (q : K (bI (isLd a h m)) μ) : ax_CI l G 92 [ax_r (some c), ax_i (nI h), ax_i (nI m)] μ K := by
  have hb := hc.bd
  refine ax_Ct.of (by decide) (Nat.le_of_ble_eq_true rfl) (sg92_0 l G _ c _ _ _ ?_)
  refine up_to (P := fun g => (∀ j, j < g → decide (¬ (buy a h j m).1 = (buy a h j (m - 1)).1) = false) → (ax_Rw l G ax_h92 (ax_E G ax_h92 _) 2 [(0, ax_r (some c)), (1, ax_i (nI h)), (2, ax_i (nI m)), (3, ax_i (nI g))] [] 0 0 μ)) (nGr a) (fun hf => ?_) (fun g hg ih hf => ?_) 0 (Nat.zero_le _) (fun j hj => by omega)
  · refine sg92_2 l G _ c _ _ _ _ ?_
    try simp (disch := omega) only [hc.1.1.2.1.all, hc.1.1.2.2.1, hc.1.1.2.2.2.1.1.all, hc.1.1.2.2.2.1.all, hc.1.tab, hc.2, wr_s, in_nI, clN, ti_z, ti_l, true_and, and_true, kI, zI, rI, kL, zL, rL, kR, zR, nnI, nnL, nnR, iL, iR, lI, lR, exi, exl, exv, eq_self, nI_add, nI_mul, nI_sub, nI_ltI, nI_leI, nI_eq, q0, q1, q2, q3, q4, q5, q6, q10, q100, br_Tr, br_Fa, iI_s, iI_n, bI_q0, bI_q1, or_true, true_or, not_true_eq_false, not_false_eq_true, nI_l, ge64, Nat.lt_irrefl, Nat.add_sub_cancel, Nat.not_lt_zero]
    unfold isLd at q
    rw [anyN_f hf, bI_z] at q
    exact q
  · have hbi := (buy_in hc.1.1.1 hh (show g < 4 by omega) m).1
    have hbj := (buy_in hc.1.1.1 hh (show g < 4 by omega) (m - 1)).1
    refine sg92_2 l G _ c _ _ _ _ ?_
    try simp (disch := omega) only [hc.1.1.2.1.all, hc.1.1.2.2.1, hc.1.1.2.2.2.1.1.all, hc.1.1.2.2.2.1.all, hc.1.tab, hc.2, hg, wr_s, in_nI, clN, ti_z, ti_l, true_and, and_true, kI, zI, rI, kL, zL, rL, kR, zR, nnI, nnL, nnR, iL, iR, lI, lR, exi, exl, exv, eq_self, nI_add, nI_mul, nI_sub, nI_ltI, nI_leI, nI_eq, q0, q1, q2, q3, q4, q5, q6, q10, q100, br_Tr, br_Fa, iI_s, iI_n, bI_q0, bI_q1, or_true, true_or, not_true_eq_false, not_false_eq_true, nI_l, ge64, Nat.lt_irrefl, Nat.add_sub_cancel, Nat.not_lt_zero]
    refine d6 ?_
    try simp (disch := omega) only [hc.1.1.2.1.all, hc.1.1.2.2.1, hc.1.1.2.2.2.1.1.all, hc.1.1.2.2.2.1.all, hc.1.tab, hc.2, wr_s, in_nI, clN, ti_z, ti_l, true_and, and_true, kI, zI, rI, kL, zL, rL, kR, zR, nnI, nnL, nnR, iL, iR, lI, lR, exi, exl, exv, eq_self, nI_add, nI_mul, nI_sub, nI_ltI, nI_leI, nI_eq, q0, q1, q2, q3, q4, q5, q6, q10, q100, br_Tr, br_Fa, iI_s, iI_n, bI_q0, bI_q1, or_true, true_or, not_true_eq_false, not_false_eq_true, nI_l, ge64, Nat.lt_irrefl, Nat.add_sub_cancel, Nat.not_lt_zero]
    have e : (enc (buy a h g m).1 = enc (buy a h g (m - 1)).1) = ((buy a h g m).1 = (buy a h g (m - 1)).1) := by
      cases hx : (buy a h g (m - 1)).1 with
      | none =>
        cases hy : (buy a h g m).1 with
        | none => simp
        | some t => exact propext ⟨fun q => absurd q.symm (neg2_ne (by have := hbi t hy; omega)), fun q => by cases q⟩
      | some t => exact enc_eq (fun t' e => by have := hbi t' e; omega) (by have := hbj t hx; omega)
    rw [e]
    refine ax_brc (fun h1 => ih (lt_s hf (by simp [h1]))) (fun h1 => ?_)
    unfold isLd at q
    rw [anyN_t hg (by simp [h1]), bI_1] at q
    exact q
theorem d138 {h : Nat} {x : Int32} {K : Int32 → ax_M → Prop} (hc : CB μ c L a) (hh : h < nHo a) (q : K ((led a h x).elim (-1) nI) μ) : ax_CI l G 138 [ax_r (some c), ax_i (nI h), ax_i x] μ K := by
  have hb := hc.bd
  refine ax_Ct.of (by decide) (Nat.le_of_ble_eq_true rfl) (sg138_0 l G _ c _ _ _ ?_)
  have loop : ∀ k m n, m + k = nMo a → 1 ≤ m → n < m → K ((ledF (isLd a h) x k m n).elim (-1) nI) μ → (ax_Rw l G ax_h138 (ax_E G ax_h138 (fun x μ' => ∃ v : Int32, x = some (ax_i v) ∧ K v μ')) 5 [(0, ax_r (some c)), (1, ax_i (nI h)), (2, ax_i x), (3, ax_i (nI n)), (4, ax_i (nI m))] [] 0 0 μ) := by
    intro k
    induction k with
    | zero =>
      intro m n hk h1 hn q
      have : m = nMo a := by omega
      subst this
      refine sg138_5 l G _ c _ _ _ _ _ ?_
      try simp (disch := omega) only [hc.1.1.2.1.all, hc.1.1.2.2.1, hc.1.1.2.2.2.1.1.all, hc.1.1.2.2.2.1.all, hc.1.tab, hc.2, wr_s, in_nI, clN, ti_z, ti_l, true_and, and_true, kI, zI, rI, kL, zL, rL, kR, zR, nnI, nnL, nnR, iL, iR, lI, lR, exi, exl, exv, eq_self, nI_add, nI_mul, nI_sub, nI_ltI, nI_leI, nI_eq, q0, q1, q2, q3, q4, q5, q6, q10, q100, br_Tr, br_Fa, iI_s, iI_n, bI_q0, bI_q1, or_true, true_or, not_true_eq_false, not_false_eq_true, nI_l, ge64, Nat.lt_irrefl, Nat.add_sub_cancel, Nat.not_lt_zero]
      exact q
    | succ k ih =>
      intro m n hk h1 hn q
      unfold ledF at q
      refine sg138_5 l G _ c _ _ _ _ _ ?_
      try simp (disch := omega) only [hc.1.1.2.1.all, hc.1.1.2.2.1, hc.1.1.2.2.2.1.1.all, hc.1.1.2.2.2.1.all, hc.1.tab, hc.2, show m < nMo a by omega, wr_s, in_nI, clN, ti_z, ti_l, true_and, and_true, kI, zI, rI, kL, zL, rL, kR, zR, nnI, nnL, nnR, iL, iR, lI, lR, exi, exl, exv, eq_self, nI_add, nI_mul, nI_sub, nI_ltI, nI_leI, nI_eq, q0, q1, q2, q3, q4, q5, q6, q10, q100, br_Tr, br_Fa, iI_s, iI_n, bI_q0, bI_q1, or_true, true_or, not_true_eq_false, not_false_eq_true, nI_l, ge64, Nat.lt_irrefl, Nat.add_sub_cancel, Nat.not_lt_zero]
      refine d92 hc hh h1 (by omega) ?_
      try simp (disch := omega) only [wr_s, in_nI, clN, ti_z, ti_l, true_and, and_true, kI, zI, rI, kL, zL, rL, kR, zR, nnI, nnL, nnR, iL, iR, lI, lR, exi, exl, exv, eq_self, nI_add, nI_mul, nI_sub, nI_ltI, nI_leI, nI_eq, q0, q1, q2, q3, q4, q5, q6, q10, q100, br_Tr, br_Fa, iI_s, iI_n, bI_q0, bI_q1, or_true, true_or, not_true_eq_false, not_false_eq_true, nI_l, ge64, Nat.lt_irrefl, Nat.add_sub_cancel, Nat.not_lt_zero]
      refine ax_brc (fun hf => ?_) (fun hf => ?_)
      · rw [if_neg (by rw [hf]; exact Bool.false_ne_true)] at q
        exact ih (m + 1) n (by omega) (by omega) (by omega) q
      · rw [if_pos (by simpa using hf)] at q
        refine ax_brc (fun he => ?_) (fun he => ?_)
        · rw [if_pos he] at q
          exact q
        · rw [if_neg he] at q
          exact ih (m + 1) (n + 1) (by omega) (by omega) (by omega) q
  exact loop (nMo a - 1) 1 0 (by omega) (by omega) (by omega) q
theorem gss_in {t m x y : Nat} (ha : LdOk a) (ht : t < nTh a) (hx : x ≤ 20) (hy : y ≤ 20) : x * Sz a t m + y * Sf a t m ≤ 23980 := by
  obtain ⟨s1, s2, s3⟩ := stt_in ha ht m
  have h1 : x * Sz a t m ≤ 20 * 999 := Nat.mul_le_mul hx s1.2
  have h2 : y * Sf a t m ≤ 20 * 200 := Nat.mul_le_mul hy s2.2
  omega
theorem d93 {g m o x y : Nat} {K : Int32 → ax_M → Prop} (hc : CT μ c L a) (hg : g < 2 ^ 31) (hm : m < nMo a) (ho : o ≤ 999) (hx : x ≤ 20) (hy : y ≤ 20) (q : K (bI (isW a g m o x y)) μ) : ax_CI l G 93 [ax_r (some c), ax_i (nI g), ax_i (nI m), ax_i (nI o), ax_i (nI x), ax_i (nI y)] μ K := by
  have hb := hc.bd
  refine ax_Ct.of (by decide) (Nat.le_of_ble_eq_true rfl) (sg93_0 l G _ c _ _ _ _ _ _ ?_)
  refine up_to (P := fun t => (∀ j, j < t → isW1 a g m o x y j = true) → (ax_Rw l G ax_h93 (ax_E G ax_h93 _) 3 [(0, ax_r (some c)), (1, ax_i (nI g)), (2, ax_i (nI m)), (3, ax_i (nI o)), (4, ax_i (nI x)), (5, ax_i (nI y)), (6, ax_i (nI t))] [] 0 0 μ)) (nTh a) (fun hf => ?_) (fun t ht ih hf => ?_) 0 (Nat.zero_le _) (fun j hj => by omega)
  · refine sg93_3 l G _ c _ _ _ _ _ _ _ ?_
    try simp (disch := omega) only [hc.1.2.1.all, hc.1.2.2.1, hc.1.2.2.2.1.1.all, hc.1.2.2.2.1.all, hc.tab, wr_s, in_nI, clN, ti_z, ti_l, true_and, and_true, kI, zI, rI, kL, zL, rL, kR, zR, nnI, nnL, nnR, iL, iR, lI, lR, exi, exl, exv, eq_self, nI_add, nI_mul, nI_sub, nI_ltI, nI_leI, nI_eq, q0, q1, q2, q3, q4, q5, q6, q10, q100, br_Tr, br_Fa, iI_s, iI_n, bI_q0, bI_q1, or_true, true_or, not_true_eq_false, not_false_eq_true, nI_l, ge64, Nat.lt_irrefl, Nat.add_sub_cancel, Nat.not_lt_zero]
    unfold isW at q
    rw [allN_t hf, bI_1] at q
    exact q
  · have hgt := hc.1.1.tg ht
    have hgs := gss_in (m := m) hc.1.1 ht hx hy
    obtain ⟨s1, s2, s3⟩ := stt_in hc.1.1 ht m
    refine sg93_3 l G _ c _ _ _ _ _ _ _ ?_
    try simp (disch := omega) only [hc.1.2.1.all, hc.1.2.2.1, hc.1.2.2.2.1.1.all, hc.1.2.2.2.1.all, hc.tab, ht, wr_s, in_nI, clN, ti_z, ti_l, true_and, and_true, kI, zI, rI, kL, zL, rL, kR, zR, nnI, nnL, nnR, iL, iR, lI, lR, exi, exl, exv, eq_self, nI_add, nI_mul, nI_sub, nI_ltI, nI_leI, nI_eq, q0, q1, q2, q3, q4, q5, q6, q10, q100, br_Tr, br_Fa, iI_s, iI_n, bI_q0, bI_q1, or_true, true_or, not_true_eq_false, not_false_eq_true, nI_l, ge64, Nat.lt_irrefl, Nat.add_sub_cancel, Nat.not_lt_zero]
    refine ax_brc (fun h1 => ?_) (fun h1 => ih (lt_s hf (by unfold isW1; simp [h1])))
    refine d14 hc ht hm ?_
    try simp (disch := omega) only [wr_s, in_nI, clN, ti_z, ti_l, true_and, and_true, kI, zI, rI, kL, zL, rL, kR, zR, nnI, nnL, nnR, iL, iR, lI, lR, exi, exl, exv, eq_self, nI_add, nI_mul, nI_sub, nI_ltI, nI_leI, nI_eq, q0, q1, q2, q3, q4, q5, q6, q10, q100, br_Tr, br_Fa, iI_s, iI_n, bI_q0, bI_q1, or_true, true_or, not_true_eq_false, not_false_eq_true, nI_l, ge64, Nat.lt_irrefl, Nat.add_sub_cancel, Nat.not_lt_zero]
    refine ax_brc (fun h2 => ih (lt_s hf (by unfold isW1; simp [h2]))) (fun h2 => ?_)
    have h2 : Tr a t m = true := by simpa using h2
    try simp (disch := omega) only [hc.1.2.1.all, hc.1.2.2.1, hc.1.2.2.2.1.1.all, hc.1.2.2.2.1.all, hc.tab, nI_div, abs_le, wr_s, in_nI, clN, ti_z, ti_l, true_and, and_true, kI, zI, rI, kL, zL, rL, kR, zR, nnI, nnL, nnR, iL, iR, lI, lR, exi, exl, exv, eq_self, nI_add, nI_mul, nI_ltI, nI_leI, nI_eq, q0, q1, q2, q3, q4, q5, q6, q10, q100, br_Tr, br_Fa, iI_s, iI_n, bI_q0, bI_q1, or_true, true_or, not_true_eq_false, not_false_eq_true, nI_l, ge64, Nat.lt_irrefl, Nat.add_sub_cancel, Nat.not_lt_zero]
    refine ⟨by decide, ?_⟩
    refine ax_brc (fun h3 => ih (lt_s hf ?_)) (fun h3 => ?_)
    · unfold isW1 gss; simp [h3]
    · unfold isW at q
      rw [allN_f ht (by unfold isW1 gss; simp only [h1, h2, decide_true, Bool.and_true, Bool.not_true, Bool.false_or]; rw [← Bool.decide_and]; exact decide_eq_false h3), bI_z] at q
      exact q
theorem d132 {g m o : Nat} {K : Int32 → ax_M → Prop} (hc : CT μ c L a) (hg : g < 2 ^ 31) (hm : m < nMo a) (ho : o ≤ 999) (q : K (nI (cntW a g m o)) μ) : ax_CI l G 132 [ax_r (some c), ax_i (nI g), ax_i (nI m), ax_i (nI o)] μ K := by
  have hb := hc.bd
  refine ax_Ct.of (by decide) (Nat.le_of_ble_eq_true rfl) (sg132_0 l G _ c _ _ _ _ ?_)
  refine up_to (P := fun x => (ax_Rw l G ax_h132 (ax_E G ax_h132 _) 6 [(0, ax_r (some c)), (1, ax_i (nI g)), (2, ax_i (nI m)), (3, ax_i (nI o)), (4, ax_i (nI (sumN (fun x => sumN (fun y => (isW a g m o x y).toNat) 21) x))), (5, ax_i (nI x))] [] 0 0 μ)) 21 ?_ (fun x hx ih => ?_) 0 (Nat.zero_le _)
  · refine sg132_6 l G _ c _ _ _ _ _ _ ?_
    try simp (disch := omega) only [q20, show ¬ (21 ≤ 20) by omega, wr_s, in_nI, clN, ti_z, ti_l, true_and, and_true, kI, zI, rI, kL, zL, rL, kR, zR, nnI, nnL, nnR, iL, iR, lI, lR, exi, exl, exv, eq_self, nI_add, nI_mul, nI_sub, nI_ltI, nI_leI, nI_eq, q0, q1, q2, q3, q4, q5, q6, q10, q100, br_Tr, br_Fa, iI_s, iI_n, bI_q0, bI_q1, or_true, true_or, not_true_eq_false, not_false_eq_true, nI_l, ge64, Nat.lt_irrefl, Nat.add_sub_cancel, Nat.not_lt_zero]
    exact q
  · refine sg132_6 l G _ c _ _ _ _ _ _ ?_
    try simp (disch := omega) only [q20, show x ≤ 20 by omega, wr_s, in_nI, clN, ti_z, ti_l, true_and, and_true, kI, zI, rI, kL, zL, rL, kR, zR, nnI, nnL, nnR, iL, iR, lI, lR, exi, exl, exv, eq_self, nI_add, nI_mul, nI_sub, nI_ltI, nI_leI, nI_eq, q0, q1, q2, q3, q4, q5, q6, q10, q100, br_Tr, br_Fa, iI_s, iI_n, bI_q0, bI_q1, or_true, true_or, not_true_eq_false, not_false_eq_true, nI_l, ge64, Nat.lt_irrefl, Nat.add_sub_cancel, Nat.not_lt_zero]
    refine up_to (P := fun y => (ax_Rw l G ax_h132 (ax_E G ax_h132 _) 16 [(0, ax_r (some c)), (1, ax_i (nI g)), (2, ax_i (nI m)), (3, ax_i (nI o)), (4, ax_i (nI (sumN (fun x => sumN (fun y => (isW a g m o x y).toNat) 21) x + sumN (fun y => (isW a g m o x y).toNat) y))), (5, ax_i (nI x)), (6, ax_i (nI y))] [] 0 0 μ)) 21 ?_ (fun y hy ih' => ?_) 0 (Nat.zero_le _)
    · refine sg132_16 l G _ c _ _ _ _ _ _ _ ?_
      try simp (disch := omega) only [q20, show ¬ (21 ≤ 20) by omega, wr_s, in_nI, clN, ti_z, ti_l, true_and, and_true, kI, zI, rI, kL, zL, rL, kR, zR, nnI, nnL, nnR, iL, iR, lI, lR, exi, exl, exv, eq_self, nI_add, nI_mul, nI_sub, nI_ltI, nI_leI, nI_eq, q0, q1, q2, q3, q4, q5, q6, q10, q100, br_Tr, br_Fa, iI_s, iI_n, bI_q0, bI_q1, or_true, true_or, not_true_eq_false, not_false_eq_true, nI_l, ge64, Nat.lt_irrefl, Nat.add_sub_cancel, Nat.not_lt_zero]
      exact ih
    · refine sg132_16 l G _ c _ _ _ _ _ _ _ ?_
      try simp (disch := omega) only [q20, show y ≤ 20 by omega, hc.1.2.1.all, hc.1.2.2.1, hc.1.2.2.2.1.1.all, hc.1.2.2.2.1.all, hc.tab, wr_s, in_nI, clN, ti_z, ti_l, true_and, and_true, kI, zI, rI, kL, zL, rL, kR, zR, nnI, nnL, nnR, iL, iR, lI, lR, exi, exl, exv, eq_self, nI_add, nI_mul, nI_sub, nI_ltI, nI_leI, nI_eq, q0, q1, q2, q3, q4, q5, q6, q10, q100, br_Tr, br_Fa, iI_s, iI_n, bI_q0, bI_q1, or_true, true_or, not_true_eq_false, not_false_eq_true, nI_l, ge64, Nat.lt_irrefl, Nat.add_sub_cancel, Nat.not_lt_zero]
      refine d93 hc hg hm ho (by omega) (by omega) ?_
      try simp (disch := omega) only [wr_s, in_nI, clN, ti_z, ti_l, true_and, and_true, kI, zI, rI, kL, zL, rL, kR, zR, nnI, nnL, nnR, iL, iR, lI, lR, exi, exl, exv, eq_self, nI_add, nI_mul, nI_sub, nI_ltI, nI_leI, nI_eq, q0, q1, q2, q3, q4, q5, q6, q10, q100, br_Tr, br_Fa, iI_s, iI_n, bI_q0, bI_q1, or_true, true_or, not_true_eq_false, not_false_eq_true, nI_l, ge64, Nat.lt_irrefl, Nat.add_sub_cancel, Nat.not_lt_zero]
      rw [sumN_s, ← Nat.add_assoc] at ih'
      refine ax_brc (fun h => ?_) (fun h => ?_)
      · rw [h] at ih'
        exact ih'
      · rw [show isW a g m o x y = true by simpa using h] at ih'
        exact ih'
def eN (e : Option Nat) : Int32 := e.elim (-1) nI
theorem fur_c {e : Option Nat} {v : Nat} {mo : Bool} {A B : Prop} (he : ∀ b, e = some b → b < 2 ^ 31) (hv : v < 2 ^ 31) (t : fur mo e v = true → A) (f : fur mo e v = false → B) : ax_br (eN e = -1) A (ax_br (bI mo = nI 0) (ax_br (nI v < eN e) A B) (ax_br (nI v ≤ eN e) B A)) := by
  cases e with
  | none => exact ax_brt rfl (t rfl)
  | some b =>
    have hb := he b rfl
    refine ax_brf ?_ ?_
    · intro q
      have q : nI b = -1 := q
      have h2 := nI_pos hb
      rw [q] at h2
      exact h2 (by decide +kernel)
    · cases mo
      · refine ax_brt rfl ?_
        refine br_lt v b rfl rfl hv hb (fun h => t ?_) (fun h => f ?_)
        · simp [fur, h]
        · simp [fur, h]
      · refine ax_brf (by decide) ?_
        refine br_le v b rfl rfl hv hb (fun h => f ?_) (fun h => t ?_)
        · simp [fur, h]
        · simp [fur, h]
theorem endS_in {g m o w x y : Nat} {mo : Bool} {e : Option Nat} (hx : x ≤ 20) (hy : y ≤ 20) (he : ∀ b, e = some b → b ≤ 20) : ∀ b, endS a g m o w mo x y e = some b → b ≤ 20 := by
  intro b h
  unfold endS at h
  have hv : (if w = 0 then x else y) ≤ 20 := by split <;> omega
  generalize (if w = 0 then x else y) = v at h hv
  split at h
  · cases h; exact hv
  · exact he b h
theorem endI_in {g m o w x : Nat} {mo : Bool} {e : Option Nat} (hx : x ≤ 20) (he : ∀ b, e = some b → b ≤ 20) : ∀ y, y ≤ 21 → ∀ b, endI a g m o w mo x e y = some b → b ≤ 20
  | 0, _ => he
  | y + 1, hy => endS_in hx (by omega) (endI_in hx he y (by omega))
theorem endO_in {g m o w : Nat} {mo : Bool} : ∀ x, x ≤ 21 → ∀ b, endO a g m o w mo x = some b → b ≤ 20
  | 0, _ => fun b h => by cases h
  | x + 1, hx => endI_in (by omega) (endO_in x (by omega)) 21 (Nat.le_refl _)
theorem d133 {g m o w : Nat} {mo : Bool} {K : Int32 → ax_M → Prop} (hc : CT μ c L a) (hg : g < 2 ^ 31) (hm : m < nMo a) (ho : o ≤ 999) (hw : w < 2) (q : K (eN (endO a g m o w mo 21)) μ) : ax_CI l G 133 [ax_r (some c), ax_i (nI g), ax_i (nI m), ax_i (nI o), ax_i (nI w), ax_i (bI mo)] μ K := by
  have hb := hc.bd
  refine ax_Ct.of (by decide) (Nat.le_of_ble_eq_true rfl) (sg133_0 l G _ c _ _ _ _ _ _ ?_)
  refine up_to (P := fun x => (ax_Rw l G ax_h133 (ax_E G ax_h133 _) 6 [(0, ax_r (some c)), (1, ax_i (nI g)), (2, ax_i (nI m)), (3, ax_i (nI o)), (4, ax_i (nI w)), (5, ax_i (bI mo)), (6, ax_i (eN (endO a g m o w mo x))), (7, ax_i (nI x))] [] 0 0 μ)) 21 ?_ (fun x hx ih => ?_) 0 (Nat.zero_le _)
  · refine sg133_6 l G _ c _ _ _ _ _ _ _ _ ?_
    try simp (disch := omega) only [q20, show ¬ (21 ≤ 20) by omega, wr_s, in_nI, clN, ti_z, ti_l, true_and, and_true, kI, zI, rI, kL, zL, rL, kR, zR, nnI, nnL, nnR, iL, iR, lI, lR, exi, exl, exv, eq_self, nI_add, nI_mul, nI_sub, nI_ltI, nI_leI, nI_eq, q0, q1, q2, q3, q4, q5, q6, q10, q100, br_Tr, br_Fa, iI_s, iI_n, bI_q0, bI_q1, or_true, true_or, not_true_eq_false, not_false_eq_true, nI_l, ge64, Nat.lt_irrefl, Nat.add_sub_cancel, Nat.not_lt_zero]
    exact q
  · refine sg133_6 l G _ c _ _ _ _ _ _ _ _ ?_
    try simp (disch := omega) only [q20, show x ≤ 20 by omega, wr_s, in_nI, clN, ti_z, ti_l, true_and, and_true, kI, zI, rI, kL, zL, rL, kR, zR, nnI, nnL, nnR, iL, iR, lI, lR, exi, exl, exv, eq_self, nI_add, nI_mul, nI_sub, nI_ltI, nI_leI, nI_eq, q0, q1, q2, q3, q4, q5, q6, q10, q100, br_Tr, br_Fa, iI_s, iI_n, bI_q0, bI_q1, or_true, true_or, not_true_eq_false, not_false_eq_true, nI_l, ge64, Nat.lt_irrefl, Nat.add_sub_cancel, Nat.not_lt_zero]
    refine up_to (P := fun y => (ax_Rw l G ax_h133 (ax_E G ax_h133 _) 16 [(0, ax_r (some c)), (1, ax_i (nI g)), (2, ax_i (nI m)), (3, ax_i (nI o)), (4, ax_i (nI w)), (5, ax_i (bI mo)), (6, ax_i (eN (endI a g m o w mo x (endO a g m o w mo x) y))), (7, ax_i (nI x)), (8, ax_i (nI y))] [] 0 0 μ)) 21 ?_ (fun y hy ih' => ?_) 0 (Nat.zero_le _)
    · refine sg133_16 l G _ c _ _ _ _ _ _ _ _ _ ?_
      try simp (disch := omega) only [q20, show ¬ (21 ≤ 20) by omega, wr_s, in_nI, clN, ti_z, ti_l, true_and, and_true, kI, zI, rI, kL, zL, rL, kR, zR, nnI, nnL, nnR, iL, iR, lI, lR, exi, exl, exv, eq_self, nI_add, nI_mul, nI_sub, nI_ltI, nI_leI, nI_eq, q0, q1, q2, q3, q4, q5, q6, q10, q100, br_Tr, br_Fa, iI_s, iI_n, bI_q0, bI_q1, or_true, true_or, not_true_eq_false, not_false_eq_true, nI_l, ge64, Nat.lt_irrefl, Nat.add_sub_cancel, Nat.not_lt_zero]
      exact ih
    · have hin := endI_in (a := a) (g := g) (m := m) (o := o) (w := w) (mo := mo) (x := x) (by omega) (endO_in (a := a) (g := g) (m := m) (o := o) (w := w) (mo := mo) x (by omega)) y (by omega)
      have fin : ∀ v, v = (if w = 0 then x else y) → (ax_Rw l G ax_h133 (ax_E G ax_h133 (fun x μ' => ∃ v : Int32, x = some (ax_i v) ∧ K v μ')) 35 [(0, ax_r (some c)), (1, ax_i (nI g)), (2, ax_i (nI m)), (3, ax_i (nI o)), (4, ax_i (nI w)), (5, ax_i (bI mo)), (6, ax_i (eN (endI a g m o w mo x (endO a g m o w mo x) y))), (7, ax_i (nI x)), (8, ax_i (nI y))] [ax_i (nI v)] 0 0 μ) := by
        intro v hv
        have hv2 : v ≤ 20 := by rw [hv]; split <;> omega
        unfold endI endS at ih'
        rw [← hv] at ih'
        refine sg133_35 l G _ c _ _ _ _ _ _ _ _ _ _ ?_
        rw [q0]
        refine fur_c (fun b h => by have := hin b h; omega) (by omega) (fun hf => ?_) (fun hf => ?_)
        · refine sg133_70 l G _ c _ _ _ _ _ _ _ _ _ _ _ ?_
          try simp (disch := omega) only [hc.1.2.1.all, hc.1.2.2.1, hc.1.2.2.2.1.1.all, hc.1.2.2.2.1.all, hc.tab, show ¬ (1 = 0) by omega, wr_s, in_nI, clN, ti_z, ti_l, true_and, and_true, kI, zI, rI, kL, zL, rL, kR, zR, nnI, nnL, nnR, iL, iR, lI, lR, exi, exl, exv, eq_self, nI_add, nI_mul, nI_sub, nI_ltI, nI_leI, nI_eq, q0, q1, q2, q3, q4, q5, q6, q10, q100, br_Tr, br_Fa, iI_s, iI_n, bI_q0, bI_q1, or_true, true_or, not_true_eq_false, not_false_eq_true, nI_l, ge64, Nat.lt_irrefl, Nat.add_sub_cancel, Nat.not_lt_zero]
          refine d93 hc hg hm ho (by omega) (by omega) ?_
          try simp (disch := omega) only [wr_s, in_nI, clN, ti_z, ti_l, true_and, and_true, kI, zI, rI, kL, zL, rL, kR, zR, nnI, nnL, nnR, iL, iR, lI, lR, exi, exl, exv, eq_self, nI_add, nI_mul, nI_sub, nI_ltI, nI_leI, nI_eq, q0, q1, q2, q3, q4, q5, q6, q10, q100, br_Tr, br_Fa, iI_s, iI_n, bI_q0, bI_q1, or_true, true_or, not_true_eq_false, not_false_eq_true, nI_l, ge64, Nat.lt_irrefl, Nat.add_sub_cancel, Nat.not_lt_zero]
          refine ax_brc (fun h => ?_) (fun h => ?_)
          · rw [h, Bool.false_and, if_neg Bool.false_ne_true] at ih'
            exact ih'
          · rw [show isW a g m o x y = true by simpa using h, hf, Bool.true_and, if_pos rfl] at ih'
            exact ih'
        · refine sg133_70 l G _ c _ _ _ _ _ _ _ _ _ _ _ ?_
          try simp (disch := omega) only [hc.1.2.1.all, hc.1.2.2.1, hc.1.2.2.2.1.1.all, hc.1.2.2.2.1.all, hc.tab, wr_s, in_nI, clN, ti_z, ti_l, true_and, and_true, kI, zI, rI, kL, zL, rL, kR, zR, nnI, nnL, nnR, iL, iR, lI, lR, exi, exl, exv, eq_self, nI_add, nI_mul, nI_sub, nI_ltI, nI_leI, nI_eq, q0, q1, q2, q3, q4, q5, q6, q10, q100, br_Tr, br_Fa, iI_s, iI_n, bI_q0, bI_q1, or_true, true_or, not_true_eq_false, not_false_eq_true, nI_l, ge64, Nat.lt_irrefl, Nat.add_sub_cancel, Nat.not_lt_zero]
          rw [hf, Bool.and_false, if_neg Bool.false_ne_true] at ih'
          exact ih'
      refine sg133_16 l G _ c _ _ _ _ _ _ _ _ _ ?_
      try simp (disch := omega) only [q20, show y ≤ 20 by omega, wr_s, in_nI, clN, ti_z, ti_l, true_and, and_true, kI, zI, rI, kL, zL, rL, kR, zR, nnI, nnL, nnR, iL, iR, lI, lR, exi, exl, exv, eq_self, nI_add, nI_mul, nI_sub, nI_ltI, nI_leI, nI_eq, q0, q1, q2, q3, q4, q5, q6, q10, q100, br_Tr, br_Fa, iI_s, iI_n, bI_q0, bI_q1, or_true, true_or, not_true_eq_false, not_false_eq_true, nI_l, ge64, Nat.lt_irrefl, Nat.add_sub_cancel, Nat.not_lt_zero]
      refine ax_brc (fun h => ?_) (fun h => ?_)
      · exact fin x (by rw [if_pos h])
      · exact fin y (by rw [if_neg h])
end C7
