/-- the cells of a thing in a month -/
def HT (μ : ax_M) (c t m : Nat) (s : Ts) : Prop := gI μ (c + 2 + t) m = nI s.1 ∧ gI μ (c + 11 + t) m = nI s.2.1 ∧ gI μ (c + 20 + t) m = nI s.2.2.1 ∧ gI μ (c + 47 + t) m = bI s.2.2.2
def sIn (s : Ts) : Prop := (10 ≤ s.1 ∧ s.1 ≤ 999) ∧ (10 ≤ s.2.1 ∧ s.2.1 ≤ 200) ∧ (1 ≤ s.2.2.1 ∧ s.2.2.1 ≤ 999)
def Pm (c t m : Nat) (b k : Nat) : Prop := k = m ∧ (b = c + 2 + t ∨ b = c + 11 + t ∨ b = c + 20 + t ∨ b = c + 47 + t)
def PrT (c t : Nat) (b _k : Nat) : Prop := b = c + 2 + t ∨ b = c + 11 + t ∨ b = c + 20 + t ∨ b = c + 29 + t ∨ b = c + 47 + t
theorem HT.s {μ : ax_M} {c t m v : Nat} {s : Ts} (h : HT μ c t m s) (ht : t < 8) : HT (sI μ (c + 2 + t) m (nI v)) c t m (v, s.2.1, s.2.2.1, s.2.2.2) := ⟨iI_s _ _ _ _, by rw [iI_n (by omega)]; exact h.2.1, by rw [iI_n (by omega)]; exact h.2.2.1, by rw [iI_n (by omega)]; exact h.2.2.2⟩
theorem HT.f {μ : ax_M} {c t m v : Nat} {s : Ts} (h : HT μ c t m s) (ht : t < 8) : HT (sI μ (c + 11 + t) m (nI v)) c t m (s.1, v, s.2.2.1, s.2.2.2) := ⟨by rw [iI_n (by omega)]; exact h.1, iI_s _ _ _ _, by rw [iI_n (by omega)]; exact h.2.2.1, by rw [iI_n (by omega)]; exact h.2.2.2⟩
theorem HT.p {μ : ax_M} {c t m v : Nat} {s : Ts} (h : HT μ c t m s) (ht : t < 8) : HT (sI μ (c + 20 + t) m (nI v)) c t m (s.1, s.2.1, v, s.2.2.2) := ⟨by rw [iI_n (by omega)]; exact h.1, by rw [iI_n (by omega)]; exact h.2.1, iI_s _ _ _ _, by rw [iI_n (by omega)]; exact h.2.2.2⟩
theorem HT.r {μ : ax_M} {c t m : Nat} {v : Bool} {s : Ts} (h : HT μ c t m s) (ht : t < 8) : HT (sI μ (c + 47 + t) m (bI v)) c t m (s.1, s.2.1, s.2.2.1, v) := ⟨by rw [iI_n (by omega)]; exact h.1, by rw [iI_n (by omega)]; exact h.2.1, by rw [iI_n (by omega)]; exact h.2.2.1, iI_s _ _ _ _⟩
section C3
variable {l : Launch} {G : ax_G} {μ : ax_M} {c L : Nat} {a : Ld}
theorem d14' {t m : Nat} {b : Bool} {K : Int32 → ax_M → Prop} (hc : isCourse μ c) (ht : t < 8) (hm : m < 12) (h : gI μ (c + 47 + t) m = bI b) (q : K (bI b) μ) : ax_CI l G 14 [ax_r (some c), ax_i (nI t), ax_i (nI m)] μ K := by
  refine ax_Ct.of (by decide) (Nat.le_of_ble_eq_true rfl) (sg14_0 l G _ c _ _ _ ?_)
  try simp (disch := omega) only [hc.all, h, wr_s, in_nI, clN, ti_z, ti_l, true_and, and_true, kI, zI, rI, kL, zL, rL, kR, zR, nnI, nnL, nnR, iL, iR, lI, lR, exi, exl, exv, eq_self, nI_add, nI_mul, nI_sub, nI_ltI, nI_leI, nI_eq, q0, q1, q2, q3, q4, q5, q6, q10, q100, br_Tr, br_Fa, iI_s, iI_n, bI_q0, bI_q1, or_true, true_or, not_true_eq_false, not_false_eq_true, nI_l, ge64, Nat.lt_irrefl, Nat.add_sub_cancel, Nat.not_lt_zero]
  cases h : b
  · rw [h, bI_z] at q
    exact ax_brf (by decide) q
  · rw [h, bI_1] at q
    exact ax_brt rfl q
theorem d19 {t : Nat} {K : Int32 → ax_M → Prop} (ha : LdOk a) (hl : RepL μ L a) (ht : t < nTh a) (q : K (bI (cmK a t (nCh a))) μ) : ax_CI l G 19 [ax_r (some L), ax_i (nI t)] μ K := by
  have hb := ha.bd
  refine ax_Ct.of (by decide) (Nat.le_of_ble_eq_true rfl) (sg19_0 l G _ L _ _ ?_)
  refine up_to (P := fun k => (∀ j, j < k → (decide (cT a j = t) && decide (cH a j = 6)) = false) → (ax_Rw l G ax_h19 (ax_E G ax_h19 _) 2 [(0, ax_r (some L)), (1, ax_i (nI t)), (2, ax_i (nI k))] [] 0 0 μ)) (nCh a) (fun hf => ?_) (fun k hk ih hf => ?_) 0 (Nat.zero_le _) (fun j hj => by omega)
  · refine sg19_2 l G _ L _ _ _ ?_
    try simp (disch := omega) only [hl.1.all, hl.all, wr_s, in_nI, clN, ti_z, ti_l, true_and, and_true, kI, zI, rI, kL, zL, rL, kR, zR, nnI, nnL, nnR, iL, iR, lI, lR, exi, exl, exv, eq_self, nI_add, nI_mul, nI_sub, nI_ltI, nI_leI, nI_eq, q0, q1, q2, q3, q4, q5, q6, q10, q100, br_Tr, br_Fa, iI_s, iI_n, bI_q0, bI_q1, or_true, true_or, not_true_eq_false, not_false_eq_true, nI_l, ge64, Nat.lt_irrefl, Nat.add_sub_cancel, Nat.not_lt_zero]
    rw [cmK_any, anyN_f hf, bI_z] at q
    exact q
  · have hch := ha.ch hk
    refine sg19_2 l G _ L _ _ _ ?_
    try simp (disch := omega) only [hl.1.all, hl.all, hk, wr_s, in_nI, clN, ti_z, ti_l, true_and, and_true, kI, zI, rI, kL, zL, rL, kR, zR, nnI, nnL, nnR, iL, iR, lI, lR, exi, exl, exv, eq_self, nI_add, nI_mul, nI_sub, nI_ltI, nI_leI, nI_eq, q0, q1, q2, q3, q4, q5, q6, q10, q100, br_Tr, br_Fa, iI_s, iI_n, bI_q0, bI_q1, or_true, true_or, not_true_eq_false, not_false_eq_true, nI_l, ge64, Nat.lt_irrefl, Nat.add_sub_cancel, Nat.not_lt_zero]
    refine ax_brc (fun h1 => ?_) (fun h1 => ih (lt_s hf (by simp [h1])))
    refine ax_brc (fun h2 => ?_) (fun h2 => ih (lt_s hf (by simp [h2])))
    rw [cmK_any, anyN_t hk (by simp [h1, h2]), bI_1] at q
    exact q
theorem d13 {k : Nat} {s : Ts} {K : ax_M → Prop} (hw : WL μ c L a) (hk : k < nCh a) (hs : HT μ c (cT a k) (cM a k) s) (hi : sIn s) (q : ∀ μ', Fr (Pm c (cT a k) (cM a k)) μ μ' → HT μ' c (cT a k) (cM a k) (ap1 (cH a k) (cB a k) s) → K μ') : ax_CV l G 13 [ax_r (some c), ax_r (some (L + 13 + k))] μ K := by
  have hb := hw.bd
  have hch := hw.1.ch hk
  obtain ⟨i1, i2, i3⟩ := hi
  have h8 : cT a k < 8 := by omega
  refine ax_Ct.of (by decide) (Nat.le_of_ble_eq_true rfl) (sg13_0 l G _ c (L + 13 + k) _ ?_)
  have hx : cH a k = 0 ∨ cH a k = 1 ∨ cH a k = 2 ∨ cH a k = 3 ∨ cH a k = 4 ∨ cH a k = 5 ∨ cH a k = 6 := by omega
  have hz := hch.2.2.2.2
  rcases hx with h | h | h | h | h | h | h
  · have hz := hz (by omega)
    rw [h] at q
    try simp (disch := omega) only [hw.2.1.all, hw.2.2.1, hw.2.2.2.1.1.all, hw.2.2.2.1.all, h, hs.1, hs.2.1, hs.2.2.1, hs.2.2.2, q999, q200, min_n, max_sub, wr_s, in_nI, clN, ti_z, ti_l, true_and, and_true, kI, zI, rI, kL, zL, rL, kR, zR, nnI, nnL, nnR, iL, iR, lI, lR, exi, exl, exv, eq_self, nI_add, nI_mul, nI_sub, nI_ltI, nI_leI, nI_eq, q0, q1, q2, q3, q4, q5, q6, q10, q100, br_Tr, br_Fa, iI_s, iI_n, bI_q0, bI_q1, or_true, true_or, not_true_eq_false, not_false_eq_true, nI_l, ge64, Nat.lt_irrefl, Nat.add_sub_cancel, Nat.not_lt_zero]
    exact q _ ((Fr.refl _ _).put ⟨rfl, by omega⟩) (hs.p h8)
  · have hz := hz (by omega)
    rw [h] at q
    try simp (disch := omega) only [hw.2.1.all, hw.2.2.1, hw.2.2.2.1.1.all, hw.2.2.2.1.all, h, hs.1, hs.2.1, hs.2.2.1, hs.2.2.2, q999, q200, min_n, max_sub, show ¬ (1 = 0) by omega, wr_s, in_nI, clN, ti_z, ti_l, true_and, and_true, kI, zI, rI, kL, zL, rL, kR, zR, nnI, nnL, nnR, iL, iR, lI, lR, exi, exl, exv, eq_self, nI_add, nI_mul, nI_ltI, nI_leI, nI_eq, q0, q1, q2, q3, q4, q5, q6, q10, q100, br_Tr, br_Fa, iI_s, iI_n, bI_q0, bI_q1, or_true, true_or, not_true_eq_false, not_false_eq_true, nI_l, ge64, Nat.lt_irrefl, Nat.add_sub_cancel, Nat.not_lt_zero]
    exact q _ ((Fr.refl _ _).put ⟨rfl, by omega⟩) (hs.p h8)
  · have hz := hz (by omega)
    rw [h] at q
    try simp (disch := omega) only [hw.2.1.all, hw.2.2.1, hw.2.2.2.1.1.all, hw.2.2.2.1.all, h, hs.1, hs.2.1, hs.2.2.1, hs.2.2.2, q999, q200, min_n, max_sub, show ¬ (2 = 0) by omega, show ¬ (2 = 1) by omega, wr_s, in_nI, clN, ti_z, ti_l, true_and, and_true, kI, zI, rI, kL, zL, rL, kR, zR, nnI, nnL, nnR, iL, iR, lI, lR, exi, exl, exv, eq_self, nI_add, nI_mul, nI_ltI, nI_leI, nI_eq, q0, q1, q2, q3, q4, q5, q6, q10, q100, br_Tr, br_Fa, iI_s, iI_n, bI_q0, bI_q1, or_true, true_or, not_true_eq_false, not_false_eq_true, nI_l, ge64, Nat.lt_irrefl, Nat.add_sub_cancel, Nat.not_lt_zero]
    exact q _ ((Fr.refl _ _).put ⟨rfl, by omega⟩) (hs.s h8)
  · have hz := hz (by omega)
    rw [h] at q
    try simp (disch := omega) only [hw.2.1.all, hw.2.2.1, hw.2.2.2.1.1.all, hw.2.2.2.1.all, h, hs.1, hs.2.1, hs.2.2.1, hs.2.2.2, q999, q200, min_n, max_sub, show ¬ (3 = 0) by omega, show ¬ (3 = 1) by omega, show ¬ (3 = 2) by omega, wr_s, in_nI, clN, ti_z, ti_l, true_and, and_true, kI, zI, rI, kL, zL, rL, kR, zR, nnI, nnL, nnR, iL, iR, lI, lR, exi, exl, exv, eq_self, nI_add, nI_mul, nI_ltI, nI_leI, nI_eq, q0, q1, q2, q3, q4, q5, q6, q10, q100, br_Tr, br_Fa, iI_s, iI_n, bI_q0, bI_q1, or_true, true_or, not_true_eq_false, not_false_eq_true, nI_l, ge64, Nat.lt_irrefl, Nat.add_sub_cancel, Nat.not_lt_zero]
    exact q _ ((Fr.refl _ _).put ⟨rfl, by omega⟩) (hs.f h8)
  · have hz := hz (by omega)
    rw [h] at q
    try simp (disch := omega) only [hw.2.1.all, hw.2.2.1, hw.2.2.2.1.1.all, hw.2.2.2.1.all, h, hs.1, hs.2.1, hs.2.2.1, hs.2.2.2, q999, q200, min_n, max_sub, show ¬ (4 = 0) by omega, show ¬ (4 = 1) by omega, show ¬ (4 = 2) by omega, show ¬ (4 = 3) by omega, wr_s, in_nI, clN, ti_z, ti_l, true_and, and_true, kI, zI, rI, kL, zL, rL, kR, zR, nnI, nnL, nnR, iL, iR, lI, lR, exi, exl, exv, eq_self, nI_add, nI_mul, nI_ltI, nI_leI, nI_eq, q0, q1, q2, q3, q4, q5, q6, q10, q100, br_Tr, br_Fa, iI_s, iI_n, bI_q0, bI_q1, or_true, true_or, not_true_eq_false, not_false_eq_true, nI_l, ge64, Nat.lt_irrefl, Nat.add_sub_cancel, Nat.not_lt_zero]
    exact q _ ((Fr.refl _ _).put ⟨rfl, by omega⟩) (hs.f h8)
  · rw [h] at q
    try simp (disch := omega) only [hw.2.1.all, hw.2.2.1, hw.2.2.2.1.1.all, hw.2.2.2.1.all, h, show ¬ (5 = 0) by omega, show ¬ (5 = 1) by omega, show ¬ (5 = 2) by omega, show ¬ (5 = 3) by omega, show ¬ (5 = 4) by omega, wr_s, in_nI, clN, ti_z, ti_l, true_and, and_true, kI, zI, rI, kL, zL, rL, kR, zR, nnI, nnL, nnR, iL, iR, lI, lR, exi, exl, exv, eq_self, nI_add, nI_mul, nI_sub, nI_ltI, nI_leI, nI_eq, q0, q1, q2, q3, q4, q5, q6, q10, q100, br_Tr, br_Fa, iI_s, iI_n, bI_q0, bI_q1, or_true, true_or, not_true_eq_false, not_false_eq_true, nI_l, ge64, Nat.lt_irrefl, Nat.add_sub_cancel, Nat.not_lt_zero]
    exact q _ ((Fr.refl _ _).put ⟨rfl, by omega⟩) (hs.r (v := false) h8)
  · rw [h] at q
    try simp (disch := omega) only [hw.2.1.all, hw.2.2.1, hw.2.2.2.1.1.all, hw.2.2.2.1.all, h, show ¬ (6 = 0) by omega, show ¬ (6 = 1) by omega, show ¬ (6 = 2) by omega, show ¬ (6 = 3) by omega, show ¬ (6 = 4) by omega, show ¬ (6 = 5) by omega, wr_s, in_nI, clN, ti_z, ti_l, true_and, and_true, kI, zI, rI, kL, zL, rL, kR, zR, nnI, nnL, nnR, iL, iR, lI, lR, exi, exl, exv, eq_self, nI_add, nI_mul, nI_sub, nI_ltI, nI_leI, nI_eq, q0, q1, q2, q3, q4, q5, q6, q10, q100, br_Tr, br_Fa, iI_s, iI_n, bI_q0, bI_q1, or_true, true_or, not_true_eq_false, not_false_eq_true, nI_l, ge64, Nat.lt_irrefl, Nat.add_sub_cancel, Nat.not_lt_zero]
    exact q _ ((Fr.refl _ _).put ⟨rfl, by omega⟩) (hs.r (v := true) h8)
theorem d89 {t m : Nat} {s : Ts} {K : ax_M → Prop} (hw : WL μ c L a) (ht : t < nTh a) (hm : m < nMo a) (hs : HT μ c t m s) (hi : sIn s) (q : ∀ μ', Fr (Pm c t m) μ μ' → HT μ' c t m (apK a t m (nCh a) s) → K μ') : ax_CV l G 89 [ax_r (some c), ax_i (nI t), ax_i (nI m)] μ K := by
  have hb := hw.bd
  refine ax_Ct.of (by decide) (Nat.le_of_ble_eq_true rfl) (sg89_0 l G _ c _ _ _ ?_)
  refine up_to (P := fun k => ∀ μk, Fr (Pm c t m) μ μk → HT μk c t m (apK a t m k s) → (ax_Rw l G ax_h89 (ax_E G ax_h89 _) 2 [(0, ax_r (some c)), (1, ax_i (nI t)), (2, ax_i (nI m)), (3, ax_i (nI k))] [] 0 0 μk)) (nCh a) (fun μk f h => ?_) (fun k hk ih μk f h => ?_) 0 (Nat.zero_le _) μ (Fr.refl _ _) hs
  · have hw := hw.fr f (fun b k q => by obtain ⟨-, q⟩ := q; omega)
    refine sg89_2 l G _ c _ _ _ _ ?_
    try simp (disch := omega) only [hw.2.1.all, hw.2.2.1, hw.2.2.2.1.1.all, hw.2.2.2.1.all, wr_s, in_nI, clN, ti_z, ti_l, true_and, and_true, kI, zI, rI, kL, zL, rL, kR, zR, nnI, nnL, nnR, iL, iR, lI, lR, exi, exl, exv, eq_self, nI_add, nI_mul, nI_sub, nI_ltI, nI_leI, nI_eq, q0, q1, q2, q3, q4, q5, q6, q10, q100, br_Tr, br_Fa, iI_s, iI_n, bI_q0, bI_q1, or_true, true_or, not_true_eq_false, not_false_eq_true, nI_l, ge64, Nat.lt_irrefl, Nat.add_sub_cancel, Nat.not_lt_zero]
    exact q μk f h
  · have hw := hw.fr f (fun b k q => by obtain ⟨-, q⟩ := q; omega)
    have hch := hw.1.ch hk
    unfold apK at ih
    refine sg89_2 l G _ c _ _ _ _ ?_
    try simp (disch := omega) only [hw.2.1.all, hw.2.2.1, hw.2.2.2.1.1.all, hw.2.2.2.1.all, hk, wr_s, in_nI, clN, ti_z, ti_l, true_and, and_true, kI, zI, rI, kL, zL, rL, kR, zR, nnI, nnL, nnR, iL, iR, lI, lR, exi, exl, exv, eq_self, nI_add, nI_mul, nI_sub, nI_ltI, nI_leI, nI_eq, q0, q1, q2, q3, q4, q5, q6, q10, q100, br_Tr, br_Fa, iI_s, iI_n, bI_q0, bI_q1, or_true, true_or, not_true_eq_false, not_false_eq_true, nI_l, ge64, Nat.lt_irrefl, Nat.add_sub_cancel, Nat.not_lt_zero]
    refine ax_brc (fun h1 => ?_) (fun h1 => ?_)
    · refine ax_brc (fun h2 => ?_) (fun h2 => ?_)
      · subst h1; subst h2
        refine d13 hw hk h (apK_in k hi) (fun μ' f' h' => ?_)
        refine ih μ' (f.trans f') ?_
        rw [if_pos ⟨rfl, rfl⟩]
        exact h'
      · refine ih μk f ?_
        rw [if_neg (fun q => h2 q.2)]
        exact h
    · refine ih μk f ?_
      rw [if_neg (fun q => h1 q.1)]
      exact h
theorem d135 {t : Nat} {K : ax_M → Prop} (hw : WL μ c L a) (ht : t < nTh a) (q : ∀ μ', Fr (PrT c t) μ μ' → (∀ m, m < nMo a → RepT μ' c a t m ∧ gI μ' (c + 29 + t) m = nI (lst a t m)) → K μ') : ax_CV l G 135 [ax_r (some c), ax_i (nI t)] μ K := by
  have hb := hw.bd
  refine ax_Ct.of (by decide) (Nat.le_of_ble_eq_true rfl) (sg135_0 l G _ c _ _ ?_)
  try simp (disch := omega) only [hw.2.1.all, hw.2.2.1, hw.2.2.2.1.1.all, hw.2.2.2.1.all, wr_s, in_nI, clN, ti_z, ti_l, true_and, and_true, kI, zI, rI, kL, zL, rL, kR, zR, nnI, nnL, nnR, iL, iR, lI, lR, exi, exl, exv, eq_self, nI_add, nI_mul, nI_sub, nI_ltI, nI_leI, nI_eq, q0, q1, q2, q3, q4, q5, q6, q10, q100, br_Tr, br_Fa, iI_s, iI_n, bI_q0, bI_q1, or_true, true_or, not_true_eq_false, not_false_eq_true, nI_l, ge64, Nat.lt_irrefl, Nat.add_sub_cancel, Nat.not_lt_zero]
  have loop : ∀ j, j ≤ nMo a - 1 → ∀ μm, Fr (PrT c t) μ μm → (∀ i, i < j + 1 → RepT μm c a t i ∧ gI μm (c + 29 + t) i = nI (lst a t i)) → (ax_Rw l G ax_h135 (ax_E G ax_h135 (fun x μ' => x = none ∧ K μ')) 81 [(0, ax_r (some c)), (1, ax_i (nI t)), (3, ax_i (nI (j + 1)))] [] 0 0 μm) := by
    refine up_to (nMo a - 1) (fun μm f h => ?_) (fun j hj ih μm f h => ?_)
    · have hw := hw.fr f (fun b k q => by unfold PrT at q; omega)
      refine sg135_81 l G _ c _ _ _ ?_
      try simp (disch := omega) only [hw.2.1.all, hw.2.2.1, hw.2.2.2.1.1.all, hw.2.2.2.1.all, show ¬ (nMo a - 1 + 1 < nMo a) by omega, wr_s, in_nI, clN, ti_z, ti_l, true_and, and_true, kI, zI, rI, kL, zL, rL, kR, zR, nnI, nnL, nnR, iL, iR, lI, lR, exi, exl, exv, eq_self, nI_add, nI_mul, nI_sub, nI_ltI, nI_leI, nI_eq, q0, q1, q2, q3, q4, q5, q6, q10, q100, br_Tr, br_Fa, iI_s, iI_n, bI_q0, bI_q1, or_true, true_or, not_true_eq_false, not_false_eq_true, nI_l, ge64, Nat.lt_irrefl, Nat.add_sub_cancel, Nat.not_lt_zero]
      exact q μm f (fun m hm => h m (by omega))
    · have hw := hw.fr f (fun b k q => by unfold PrT at q; omega)
      obtain ⟨⟨h1, h2, h3, h4⟩, h5'⟩ := h j (by omega)
      refine sg135_81 l G _ c _ _ _ ?_
      try simp (disch := omega) only [hw.2.1.all, hw.2.2.1, hw.2.2.2.1.1.all, hw.2.2.2.1.all, show j + 1 < nMo a by omega, h1, h2, h3, h4, h5', wr_s, in_nI, clN, ti_z, ti_l, true_and, and_true, kI, zI, rI, kL, zL, rL, kR, zR, nnI, nnL, nnR, iL, iR, lI, lR, exi, exl, exv, eq_self, nI_add, nI_mul, nI_sub, nI_ltI, nI_leI, nI_eq, q0, q1, q2, q3, q4, q5, q6, q10, q100, br_Tr, br_Fa, iI_s, iI_n, bI_q0, bI_q1, or_true, true_or, not_true_eq_false, not_false_eq_true, nI_l, ge64, Nat.lt_irrefl, Nat.add_sub_cancel, Nat.not_lt_zero]
      refine sg135_128 l G _ c _ _ _ ?_
      try simp (disch := omega) only [hw.2.1.all, hw.2.2.1, hw.2.2.2.1.1.all, hw.2.2.2.1.all, h1, h2, h3, h4, h5', wr_s, in_nI, clN, ti_z, ti_l, true_and, and_true, kI, zI, rI, kL, zL, rL, kR, zR, nnI, nnL, nnR, iL, iR, lI, lR, exi, exl, exv, eq_self, nI_add, nI_mul, nI_sub, nI_ltI, nI_leI, nI_eq, q0, q1, q2, q3, q4, q5, q6, q10, q100, br_Tr, br_Fa, iI_s, iI_n, bI_q0, bI_q1, or_true, true_or, not_true_eq_false, not_false_eq_true, nI_l, ge64, Nat.lt_irrefl, Nat.add_sub_cancel, Nat.not_lt_zero]
      refine sg135_146 l G _ c _ _ _ ?_
      try simp (disch := omega) only [hw.2.1.all, hw.2.2.1, hw.2.2.2.1.1.all, hw.2.2.2.1.all, h1, h2, h3, h4, h5', wr_s, in_nI, clN, ti_z, ti_l, true_and, and_true, kI, zI, rI, kL, zL, rL, kR, zR, nnI, nnL, nnR, iL, iR, lI, lR, exi, exl, exv, eq_self, nI_add, nI_mul, nI_sub, nI_ltI, nI_leI, nI_eq, q0, q1, q2, q3, q4, q5, q6, q10, q100, br_Tr, br_Fa, iI_s, iI_n, bI_q0, bI_q1, or_true, true_or, not_true_eq_false, not_false_eq_true, nI_l, ge64, Nat.lt_irrefl, Nat.add_sub_cancel, Nat.not_lt_zero]
      have f4 : Fr (fun b k => k = j + 1 ∧ PrT c t b k) μm (sI (sI (sI (sI μm (c + 2 + t) (j + 1) (nI (Sz a t j))) (c + 11 + t) (j + 1) (nI (Sf a t j))) (c + 20 + t) (j + 1) (nI (Pr a t j))) (c + 47 + t) (j + 1) (bI (Tr a t j))) := ((((Fr.refl _ _).put ⟨rfl, Or.inl rfl⟩).put ⟨rfl, Or.inr (Or.inl rfl)⟩).put ⟨rfl, Or.inr (Or.inr (Or.inl rfl))⟩).put ⟨rfl, Or.inr (Or.inr (Or.inr (Or.inr rfl)))⟩
      have g4 : HT (sI (sI (sI (sI μm (c + 2 + t) (j + 1) (nI (Sz a t j))) (c + 11 + t) (j + 1) (nI (Sf a t j))) (c + 20 + t) (j + 1) (nI (Pr a t j))) (c + 47 + t) (j + 1) (bI (Tr a t j))) c t (j + 1) (stt a t j) := by
        unfold HT
        try simp (disch := omega) only [wr_s, in_nI, clN, ti_z, ti_l, true_and, and_true, kI, zI, rI, kL, zL, rL, kR, zR, nnI, nnL, nnR, iL, iR, lI, lR, exi, exl, exv, eq_self, nI_add, nI_mul, nI_sub, nI_ltI, nI_leI, nI_eq, q0, q1, q2, q3, q4, q5, q6, q10, q100, br_Tr, br_Fa, iI_s, iI_n, bI_q0, bI_q1, or_true, true_or, not_true_eq_false, not_false_eq_true, nI_l, ge64, Nat.lt_irrefl, Nat.add_sub_cancel, Nat.not_lt_zero]
      generalize sI (sI (sI (sI μm (c + 2 + t) (j + 1) (nI (Sz a t j))) (c + 11 + t) (j + 1) (nI (Sf a t j))) (c + 20 + t) (j + 1) (nI (Pr a t j))) (c + 47 + t) (j + 1) (bI (Tr a t j)) = ν at f4 g4
      have hw4 := hw.fr f4 (fun b k q => by obtain ⟨-, q⟩ := q; unfold PrT at q; omega)
      refine d89 hw4 ht (by omega) g4 (stt_in hw.1 ht j) (fun μ5 f5 h5 => ?_)
      have h5 : HT μ5 c t (j + 1) (stt a t (j + 1)) := h5
      have f6 : Fr (fun b k => k = j + 1 ∧ PrT c t b k) μm μ5 := f4.trans (f5.mono (fun b k q => ⟨q.1, by have := q.2; unfold PrT; omega⟩))
      have hw5 := hw.fr f6 (fun b k q => by obtain ⟨-, q⟩ := q; unfold PrT at q; omega)
      have hl : gI μ5 (c + 29 + t) j = nI (lst a t j) := by
        rw [f6.I (fun q => by have := q.1; omega)]; exact h5'
      try simp (disch := omega) only [hw5.2.1.all, hw5.2.2.1, hw5.2.2.2.1.1.all, hw5.2.2.2.1.all, wr_s, in_nI, clN, ti_z, ti_l, true_and, and_true, kI, zI, rI, kL, zL, rL, kR, zR, nnI, nnL, nnR, iL, iR, lI, lR, exi, exl, exv, eq_self, nI_add, nI_mul, nI_sub, nI_ltI, nI_leI, nI_eq, q0, q1, q2, q3, q4, q5, q6, q10, q100, br_Tr, br_Fa, iI_s, iI_n, bI_q0, bI_q1, or_true, true_or, not_true_eq_false, not_false_eq_true, nI_l, ge64, Nat.lt_irrefl, Nat.add_sub_cancel, Nat.not_lt_zero]
      refine d14' hw5.2.1 (by omega) (by omega) h5.2.2.2 ?_
      have fin : ∀ v, v = lst a t (j + 1) → (ax_Rw l G ax_h135 (ax_E G ax_h135 (fun x μ' => x = none ∧ K μ')) 81 [(0, ax_r (some c)), (1, ax_i (nI t)), (3, ax_i (nI (j + 1 + 1)))] [] 0 0 (sI μ5 (c + 29 + t) (j + 1) (nI v))) := by
        intro v hv
        refine ih _ (f.trans ((f6.mono (fun b k q => q.2)).put (Or.inr (Or.inr (Or.inr (Or.inl rfl)))))) (lt_s (fun i hi => ?_) ?_)
        · unfold RepT
          obtain ⟨⟨r1, r2, r3, r4⟩, r5⟩ := h i hi
          rw [iI_n (by omega), iI_n (by omega), iI_n (by omega), iI_n (by omega), iI_n (by omega), f6.I (fun q => by have := q.1; omega), f6.I (fun q => by have := q.1; omega), f6.I (fun q => by have := q.1; omega), f6.I (fun q => by have := q.1; omega), f6.I (fun q => by have := q.1; omega)]
          exact ⟨⟨r1, r2, r3, r4⟩, r5⟩
        · unfold RepT
          rw [iI_n (by omega), iI_n (by omega), iI_n (by omega), iI_n (by omega), iI_s, hv]
          exact ⟨h5, rfl⟩
      unfold lst at fin
      try simp (disch := omega) only [hw5.2.1.all, hw5.2.2.1, hw5.2.2.2.1.1.all, hw5.2.2.2.1.all, hl, wr_s, in_nI, clN, ti_z, ti_l, true_and, and_true, kI, zI, rI, kL, zL, rL, kR, zR, nnI, nnL, nnR, iL, iR, lI, lR, exi, exl, exv, eq_self, nI_add, nI_mul, nI_sub, nI_ltI, nI_leI, nI_eq, q0, q1, q2, q3, q4, q5, q6, q10, q100, br_Tr, br_Fa, iI_s, iI_n, bI_q0, bI_q1, or_true, true_or, not_true_eq_false, not_false_eq_true, nI_l, ge64, Nat.lt_irrefl, Nat.add_sub_cancel, Nat.not_lt_zero]
      refine ax_brc (fun hf => ?_) (fun hf => ?_)
      · exact fin _ (by rw [if_neg (fun e => Bool.noConfusion (hf.symm.trans e))])
      · exact fin _ (by rw [if_pos (by simpa using hf)])
  have f0 : Fr (PrT c t) μ (sI (sI (sI μ (c + 2 + t) 0 (nI (a.2.1 t 1))) (c + 11 + t) 0 (nI (a.2.1 t 2))) (c + 20 + t) 0 (nI (a.2.1 t 3))) := (((Fr.refl _ _).put (Or.inl rfl)).put (Or.inr (Or.inl rfl))).put (Or.inr (Or.inr (Or.inl rfl)))
  have g1 : gI (sI (sI (sI μ (c + 2 + t) 0 (nI (a.2.1 t 1))) (c + 11 + t) 0 (nI (a.2.1 t 2))) (c + 20 + t) 0 (nI (a.2.1 t 3))) (c + 2 + t) 0 = nI (a.2.1 t 1) := by try simp (disch := omega) only [wr_s, in_nI, clN, ti_z, ti_l, true_and, and_true, kI, zI, rI, kL, zL, rL, kR, zR, nnI, nnL, nnR, iL, iR, lI, lR, exi, exl, exv, eq_self, nI_add, nI_mul, nI_sub, nI_ltI, nI_leI, nI_eq, q0, q1, q2, q3, q4, q5, q6, q10, q100, br_Tr, br_Fa, iI_s, iI_n, bI_q0, bI_q1, or_true, true_or, not_true_eq_false, not_false_eq_true, nI_l, ge64, Nat.lt_irrefl, Nat.add_sub_cancel, Nat.not_lt_zero]
  have g2 : gI (sI (sI (sI μ (c + 2 + t) 0 (nI (a.2.1 t 1))) (c + 11 + t) 0 (nI (a.2.1 t 2))) (c + 20 + t) 0 (nI (a.2.1 t 3))) (c + 11 + t) 0 = nI (a.2.1 t 2) := by try simp (disch := omega) only [wr_s, in_nI, clN, ti_z, ti_l, true_and, and_true, kI, zI, rI, kL, zL, rL, kR, zR, nnI, nnL, nnR, iL, iR, lI, lR, exi, exl, exv, eq_self, nI_add, nI_mul, nI_sub, nI_ltI, nI_leI, nI_eq, q0, q1, q2, q3, q4, q5, q6, q10, q100, br_Tr, br_Fa, iI_s, iI_n, bI_q0, bI_q1, or_true, true_or, not_true_eq_false, not_false_eq_true, nI_l, ge64, Nat.lt_irrefl, Nat.add_sub_cancel, Nat.not_lt_zero]
  have g3 : gI (sI (sI (sI μ (c + 2 + t) 0 (nI (a.2.1 t 1))) (c + 11 + t) 0 (nI (a.2.1 t 2))) (c + 20 + t) 0 (nI (a.2.1 t 3))) (c + 20 + t) 0 = nI (a.2.1 t 3) := by try simp (disch := omega) only [wr_s, in_nI, clN, ti_z, ti_l, true_and, and_true, kI, zI, rI, kL, zL, rL, kR, zR, nnI, nnL, nnR, iL, iR, lI, lR, exi, exl, exv, eq_self, nI_add, nI_mul, nI_sub, nI_ltI, nI_leI, nI_eq, q0, q1, q2, q3, q4, q5, q6, q10, q100, br_Tr, br_Fa, iI_s, iI_n, bI_q0, bI_q1, or_true, true_or, not_true_eq_false, not_false_eq_true, nI_l, ge64, Nat.lt_irrefl, Nat.add_sub_cancel, Nat.not_lt_zero]
  generalize sI (sI (sI μ (c + 2 + t) 0 (nI (a.2.1 t 1))) (c + 11 + t) 0 (nI (a.2.1 t 2))) (c + 20 + t) 0 (nI (a.2.1 t 3)) = ν at f0 g1 g2 g3
  have hw0 := hw.fr f0 (fun b k q => by unfold PrT at q; omega)
  refine sg135_46 l G _ c _ _ ?_
  try simp (disch := omega) only [hw0.2.1.all, hw0.2.2.1, hw0.2.2.2.1.1.all, hw0.2.2.2.1.all, wr_s, in_nI, clN, ti_z, ti_l, true_and, and_true, kI, zI, rI, kL, zL, rL, kR, zR, nnI, nnL, nnR, iL, iR, lI, lR, exi, exl, exv, eq_self, nI_add, nI_mul, nI_sub, nI_ltI, nI_leI, nI_eq, q0, q1, q2, q3, q4, q5, q6, q10, q100, br_Tr, br_Fa, iI_s, iI_n, bI_q0, bI_q1, or_true, true_or, not_true_eq_false, not_false_eq_true, nI_l, ge64, Nat.lt_irrefl, Nat.add_sub_cancel, Nat.not_lt_zero]
  refine d19 hw0.1 hw0.2.2.2.1 ht ?_
  have fin : ∀ b : Bool, b = !cmK a t (nCh a) → (ax_Rw l G ax_h135 (ax_E G ax_h135 (fun x μ' => x = none ∧ K μ')) 81 [(0, ax_r (some c)), (1, ax_i (nI t)), (3, ax_i (nI 1))] [] 0 0 (sI (sI ν (c + 47 + t) 0 (bI b)) (c + 29 + t) 0 (nI 0))) := by
    intro b hb'
    refine loop 0 (Nat.zero_le _) _ ((f0.put (Or.inr (Or.inr (Or.inr (Or.inr rfl))))).put (Or.inr (Or.inr (Or.inr (Or.inl rfl))))) (fun i hi => ?_)
    have : i = 0 := by omega
    subst this
    unfold RepT
    try simp (disch := omega) only [g1, g2, g3, wr_s, in_nI, clN, ti_z, ti_l, true_and, and_true, kI, zI, rI, kL, zL, rL, kR, zR, nnI, nnL, nnR, iL, iR, lI, lR, exi, exl, exv, eq_self, nI_add, nI_mul, nI_sub, nI_ltI, nI_leI, nI_eq, q0, q1, q2, q3, q4, q5, q6, q10, q100, br_Tr, br_Fa, iI_s, iI_n, bI_q0, bI_q1, or_true, true_or, not_true_eq_false, not_false_eq_true, nI_l, ge64, Nat.lt_irrefl, Nat.add_sub_cancel, Nat.not_lt_zero]
    refine ⟨⟨rfl, rfl, rfl, ?_⟩, rfl⟩
    rw [hb']; rfl
  try simp (disch := omega) only [hw0.2.1.all, hw0.2.2.1, hw0.2.2.2.1.1.all, hw0.2.2.2.1.all, wr_s, in_nI, clN, ti_z, ti_l, true_and, and_true, kI, zI, rI, kL, zL, rL, kR, zR, nnI, nnL, nnR, iL, iR, lI, lR, exi, exl, exv, eq_self, nI_add, nI_mul, nI_sub, nI_ltI, nI_leI, nI_eq, q0, q1, q2, q3, q4, q5, q6, q10, q100, br_Tr, br_Fa, iI_s, iI_n, bI_q0, bI_q1, or_true, true_or, not_true_eq_false, not_false_eq_true, nI_l, ge64, Nat.lt_irrefl, Nat.add_sub_cancel, Nat.not_lt_zero]
  refine ax_brc (fun hf => ?_) (fun hf => ?_)
  · exact fin true (by rw [hf]; rfl)
  · exact fin false (by rw [show cmK a t (nCh a) = true by simpa using hf]; rfl)
end C3
