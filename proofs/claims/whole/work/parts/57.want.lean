theorem nI_sub1 (n : Nat) : nI (n + 1) - nI 1 = nI n := nI_sub (by omega)
theorem enc_some (t : Nat) : enc (some t) = nI t := rfl
theorem enc_none : enc none = -nI 2 := by decide +kernel
theorem enc_neg {o : Option Nat} (h : ∀ t, o = some t → t < 2 ^ 31) : (enc o < nI 0) = (o = none) := by
  cases o with
  | none => exact propext (by decide +kernel)
  | some t => exact propext ⟨fun q => absurd q (nI_pos (h t rfl)), fun q => by cases q⟩
theorem neg2_neg : (-nI 2 < nI 0) = True := eq_true (by decide +kernel)
theorem neg2_ne {t : Nat} (h : t < 2 ^ 31) : ¬ -nI 2 = nI t := by
  intro q
  have h2 := nI_pos h
  rw [← q] at h2
  exact h2 (by decide +kernel)
theorem enc_eq {o : Option Nat} {t : Nat} (h : ∀ t, o = some t → t < 2 ^ 31) (ht : t < 2 ^ 31) : (enc o = nI t) = (o = some t) := by
  cases o with
  | none => exact propext ⟨fun q => absurd q (neg2_ne ht), fun q => by cases q⟩
  | some x =>
    rw [enc_some, nI_eq (h x rfl) ht]
    exact propext ⟨fun q => by rw [q], fun q => by cases q; rfl⟩
theorem best_in {a : Ld} (ha : LdOk a) {g w m : Nat} (hw : w ≤ 99) {b : Nat × Nat} (h : best a g w m = some b) : b.1 < nTh a ∧ tG a b.1 = g ∧ Tr a b.1 m = true ∧ b.2 = pcs a w b.1 m * Pr a b.1 m ∧ b.2 ≤ 98901 := bstK_in ha hw (nTh a) (Nat.le_refl _) b h
theorem anew_in {a : Ld} (ha : LdOk a) {h g m : Nat} (hh : h < nHo a) (hg : g < 4) : (∀ t, (anew a h g m).1 = some t → t < nTh a ∧ tG a t = g ∧ Tr a t m = true) ∧ (anew a h g m).2 ≤ 99 ∧ ((anew a h g m).1 = none → (anew a h g m).2 = 0) := by
  have hw := (ha.hw hh).2.2 g hg
  unfold anew
  split
  · exact ⟨fun t q => (nomatch q), Nat.zero_le _, fun _ => rfl⟩
  · split
    · exact ⟨fun t q => (nomatch q), Nat.zero_le _, fun _ => rfl⟩
    · rename_i b hb
      have q := best_in ha hw hb
      exact ⟨fun t e => by cases e; exact ⟨q.1, q.2.1, q.2.2.1⟩, pcs_in ha q.1 hw m, fun e => by cases e⟩
theorem buy_in {a : Ld} (ha : LdOk a) {h g : Nat} (hh : h < nHo a) (hg : g < 4) : ∀ m, (∀ t, (buy a h g m).1 = some t → t < nTh a ∧ tG a t = g ∧ Tr a t m = true) ∧ (buy a h g m).2 ≤ 99 ∧ ((buy a h g m).1 = none → (buy a h g m).2 = 0)
  | 0 => anew_in ha hh hg
  | m + 1 => by
    have ih := buy_in ha hh hg m
    unfold buy
    split
    · rename_i t ht
      split
      · rename_i hs
        refine ⟨fun t' e => ?_, ih.2.1, ih.2.2⟩
        have e' := ht.symm.trans e
        cases e'
        have q := ih.1 t ht
        refine ⟨q.1, q.2.1, ?_⟩
        unfold stays at hs
        simp only [Bool.and_eq_true] at hs
        exact hs.1.1
      · exact anew_in ha hh hg
    · exact anew_in ha hh hg
def PbW (c r : Nat) (b _k : Nat) : Prop := b = c + 56 + r ∨ b = c + 69 + r
def PA (c t : Nat) (b _k : Nat) : Prop := b = c + 38 + t
def PC (c : Nat) (b _k : Nat) : Prop := c + 1 ≤ b ∧ b < c + 81
section C4
variable {l : Launch} {G : ax_G} {μ : ax_M} {c L : Nat} {a : Ld}
theorem d97 {h t m : Nat} {K : Int32 → ax_M → Prop} (hc : CT μ c L a) (hh : h < nHo a) (ht : t < nTh a) (hm : m + 1 < nMo a) (q : K (bI (stays a h t (m + 1))) μ) : ax_CI l G 97 [ax_r (some c), ax_i (nI h), ax_i (nI t), ax_i (nI (m + 1))] μ K := by
  have hb := hc.bd
  obtain ⟨s1, s2, s3⟩ := stt_in hc.1.1 ht m
  obtain ⟨r1, r2, r3⟩ := stt_in hc.1.1 ht (m + 1)
  have hn := (hc.1.1.hw hh).1
  have e1 : hN a h * Pr a t m ≤ 99 * 999 := Nat.mul_le_mul hn s3.2
  have e2 : hN a h * Sz a t m ≤ 99 * 999 := Nat.mul_le_mul hn s1.2
  have fin : ∀ u v : Bool, u = decide (hN a h * Pr a t m < (Pr a t (m + 1) - Pr a t m) * 100) → v = decide (hN a h * Sz a t m < (Sz a t m - Sz a t (m + 1)) * 100) → (ax_Rw l G ax_h97 (ax_E G ax_h97 (fun x μ' => ∃ v : Int32, x = some (ax_i v) ∧ K v μ')) 94 [(0, ax_r (some c)), (2, ax_i (nI t)), (3, ax_i (nI (m + 1))), (7, ax_i (bI u))] [ax_i (bI v)] 0 0 μ) := by
    intro u v hu hv
    refine sg97_94 l G _ c _ _ _ _ _ ?_
    try simp (disch := omega) only [hc.1.2.1.all, hc.1.2.2.1, hc.1.2.2.2.1.1.all, hc.1.2.2.2.1.all, hc.tab, wr_s, in_nI, clN, ti_z, ti_l, true_and, and_true, kI, zI, rI, kL, zL, rL, kR, zR, nnI, nnL, nnR, iL, iR, lI, lR, exi, exl, exv, eq_self, nI_add, nI_mul, nI_sub, nI_ltI, nI_leI, nI_eq, q0, q1, q2, q3, q4, q5, q6, q10, q100, br_Tr, br_Fa, iI_s, iI_n, bI_q0, bI_q1, or_true, true_or, not_true_eq_false, not_false_eq_true, nI_l, ge64, Nat.lt_irrefl, Nat.add_sub_cancel, Nat.not_lt_zero]
    refine d14 hc ht hm ?_
    try simp (disch := omega) only [wr_s, in_nI, clN, ti_z, ti_l, true_and, and_true, kI, zI, rI, kL, zL, rL, kR, zR, nnI, nnL, nnR, iL, iR, lI, lR, exi, exl, exv, eq_self, nI_add, nI_mul, nI_sub, nI_ltI, nI_leI, nI_eq, q0, q1, q2, q3, q4, q5, q6, q10, q100, br_Tr, br_Fa, iI_s, iI_n, bI_q0, bI_q1, or_true, true_or, not_true_eq_false, not_false_eq_true, nI_l, ge64, Nat.lt_irrefl, Nat.add_sub_cancel, Nat.not_lt_zero]
    have e : stays a h t (m + 1) = (Tr a t (m + 1) && !u && !v) := by rw [hu, hv]; rfl
    rw [e] at q
    cases hT : Tr a t (m + 1)
    · rw [hT] at q
      exact ax_brt rfl q
    · rw [hT] at q
      refine ax_brf (by decide) ?_
      cases u
      · refine ax_brt rfl ?_
        cases v
        · exact ax_brt rfl q
        · exact ax_brf (by decide) q
      · exact ax_brf (by decide) q
  refine ax_Ct.of (by decide) (Nat.le_of_ble_eq_true rfl) (sg97_0 l G _ c _ _ _ _ ?_)
  try simp (disch := omega) only [nI_sub1, hc.1.2.1.all, hc.1.2.2.1, hc.1.2.2.2.1.1.all, hc.1.2.2.2.1.all, hc.tab, sub_cmp, wr_s, in_nI, clN, ti_z, ti_l, true_and, and_true, kI, zI, rI, kL, zL, rL, kR, zR, nnI, nnL, nnR, iL, iR, lI, lR, exi, exl, exv, eq_self, nI_add, nI_mul, nI_ltI, nI_leI, nI_eq, q0, q1, q2, q3, q4, q5, q6, q10, q100, br_Tr, br_Fa, iI_s, iI_n, bI_q0, bI_q1, or_true, true_or, not_true_eq_false, not_false_eq_true, nI_l, ge64, Nat.lt_irrefl, Nat.add_sub_cancel, Nat.not_lt_zero]
  refine ax_brc (fun h1 => ?_) (fun h1 => ?_)
  · refine ax_brc (fun h2 => ?_) (fun h2 => ?_)
    · exact fin false false (decide_eq_false h1).symm (decide_eq_false h2).symm
    · exact fin false true (decide_eq_false h1).symm (decide_eq_true (Decidable.not_not.mp h2)).symm
  · refine ax_brc (fun h2 => ?_) (fun h2 => ?_)
    · exact fin true false (decide_eq_true (Decidable.not_not.mp h1)).symm (decide_eq_false h2).symm
    · exact fin true true (decide_eq_true (Decidable.not_not.mp h1)).symm (decide_eq_true (Decidable.not_not.mp h2)).symm
theorem d169 {h g : Nat} {K : ax_M → Prop} (hc : CT μ c L a) (hh : h < nHo a) (hg : g < nGr a) (q : ∀ μ', Fr (PbW c (h * 4 + g)) μ μ' → (∀ m, m < nMo a → gI μ' (c + 56 + (h * 4 + g)) m = enc (buy a h g m).1 ∧ gI μ' (c + 69 + (h * 4 + g)) m = nI (buy a h g m).2) → K μ') : ax_CV l G 169 [ax_r (some c), ax_i (nI h), ax_i (nI g)] μ K := by
  have hb := hc.bd
  have hW9 := (hc.1.1.hw hh).2.2 g (by omega)
  refine ax_Ct.of (by decide) (Nat.le_of_ble_eq_true rfl) (sg169_0 l G _ c _ _ _ ?_)
  refine d6 ?_
  try simp (disch := omega) only [hc.1.2.1.all, hc.1.2.2.1, hc.1.2.2.2.1.1.all, hc.1.2.2.2.1.all, hc.tab, wr_s, in_nI, clN, ti_z, ti_l, true_and, and_true, kI, zI, rI, kL, zL, rL, kR, zR, nnI, nnL, nnR, iL, iR, lI, lR, exi, exl, exv, eq_self, nI_add, nI_mul, nI_sub, nI_ltI, nI_leI, nI_eq, q0, q1, q2, q3, q4, q5, q6, q10, q100, br_Tr, br_Fa, iI_s, iI_n, bI_q0, bI_q1, or_true, true_or, not_true_eq_false, not_false_eq_true, nI_l, ge64, Nat.lt_irrefl, Nat.add_sub_cancel, Nat.not_lt_zero]
  refine up_to (P := fun m => ∀ μm, Fr (PbW c (h * 4 + g)) μ μm → (∀ i, i < m → gI μm (c + 56 + (h * 4 + g)) i = enc (buy a h g i).1 ∧ gI μm (c + 69 + (h * 4 + g)) i = nI (buy a h g i).2) → (ax_Rw l G ax_h169 (ax_E G ax_h169 (fun x μ' => x = none ∧ K μ')) 25 [(0, ax_r (some c)), (1, ax_i (nI h)), (2, ax_i (nI g)), (3, ax_i (nI (h * 4 + g))), (4, ax_i (nI (hW a h g))), (5, ax_i (nI m))] [] 0 0 μm)) (nMo a) (fun μm f hr => ?_) (fun m hm ih μm f hr => ?_) 0 (Nat.zero_le _) μ (Fr.refl _ _) (fun i hi => by omega)
  · have hc := hc.fr f (fun b k q => by unfold PbW at q; omega)
    refine sg169_25 l G _ c _ _ _ _ _ _ ?_
    try simp (disch := omega) only [hc.1.2.1.all, hc.1.2.2.1, hc.1.2.2.2.1.1.all, hc.1.2.2.2.1.all, hc.tab, wr_s, in_nI, clN, ti_z, ti_l, true_and, and_true, kI, zI, rI, kL, zL, rL, kR, zR, nnI, nnL, nnR, iL, iR, lI, lR, exi, exl, exv, eq_self, nI_add, nI_mul, nI_sub, nI_ltI, nI_leI, nI_eq, q0, q1, q2, q3, q4, q5, q6, q10, q100, br_Tr, br_Fa, iI_s, iI_n, bI_q0, bI_q1, or_true, true_or, not_true_eq_false, not_false_eq_true, nI_l, ge64, Nat.lt_irrefl, Nat.add_sub_cancel, Nat.not_lt_zero]
    exact q μm f hr
  · have hc := hc.fr f (fun b k q => by unfold PbW at q; omega)
    have fin : ∀ v : Option Nat × Nat, buy a h g m = v → (ax_Rw l G ax_h169 (ax_E G ax_h169 (fun x μ' => x = none ∧ K μ')) 25 [(0, ax_r (some c)), (1, ax_i (nI h)), (2, ax_i (nI g)), (3, ax_i (nI (h * 4 + g))), (4, ax_i (nI (hW a h g))), (5, ax_i (nI (m + 1)))] [] 0 0 (sI (sI μm (c + 56 + (h * 4 + g)) m (enc v.1)) (c + 69 + (h * 4 + g)) m (nI v.2))) := by
      intro v hv
      refine ih _ ((f.put (Or.inl rfl)).put (Or.inr rfl)) (lt_s (fun i hi => ?_) ?_)
      · try simp (disch := omega) only [wr_s, in_nI, clN, ti_z, ti_l, true_and, and_true, kI, zI, rI, kL, zL, rL, kR, zR, nnI, nnL, nnR, iL, iR, lI, lR, exi, exl, exv, eq_self, nI_add, nI_mul, nI_sub, nI_ltI, nI_leI, nI_eq, q0, q1, q2, q3, q4, q5, q6, q10, q100, br_Tr, br_Fa, iI_s, iI_n, bI_q0, bI_q1, or_true, true_or, not_true_eq_false, not_false_eq_true, nI_l, ge64, Nat.lt_irrefl, Nat.add_sub_cancel, Nat.not_lt_zero]
        exact hr i hi
      · try simp (disch := omega) only [wr_s, in_nI, clN, ti_z, ti_l, true_and, and_true, kI, zI, rI, kL, zL, rL, kR, zR, nnI, nnL, nnR, iL, iR, lI, lR, exi, exl, exv, eq_self, nI_add, nI_mul, nI_sub, nI_ltI, nI_leI, nI_eq, q0, q1, q2, q3, q4, q5, q6, q10, q100, br_Tr, br_Fa, iI_s, iI_n, bI_q0, bI_q1, or_true, true_or, not_true_eq_false, not_false_eq_true, nI_l, ge64, Nat.lt_irrefl, Nat.add_sub_cancel, Nat.not_lt_zero]
        rw [hv]
        exact ⟨rfl, rfl⟩
    have st : buy a h g m = anew a h g m → (ax_Rw l G ax_h169 (ax_E G ax_h169 (fun x μ' => x = none ∧ K μ')) 111 [(0, ax_r (some c)), (1, ax_i (nI h)), (2, ax_i (nI g)), (3, ax_i (nI (h * 4 + g))), (4, ax_i (nI (hW a h g))), (5, ax_i (nI m))] [] 0 0 μm) := by
      intro hv
      have fin := fin _ hv
      unfold anew at fin
      refine sg169_111 l G _ c _ _ _ _ _ _ ?_
      try simp (disch := omega) only [hc.1.2.1.all, hc.1.2.2.1, hc.1.2.2.2.1.1.all, hc.1.2.2.2.1.all, hc.tab, wr_s, in_nI, clN, ti_z, ti_l, true_and, and_true, kI, zI, rI, kL, zL, rL, kR, zR, nnI, nnL, nnR, iL, iR, lI, lR, exi, exl, exv, eq_self, nI_add, nI_mul, nI_sub, nI_ltI, nI_leI, nI_eq, q0, q1, q2, q3, q4, q5, q6, q10, q100, br_Tr, br_Fa, iI_s, iI_n, bI_q0, bI_q1, or_true, true_or, not_true_eq_false, not_false_eq_true, nI_l, ge64, Nat.lt_irrefl, Nat.add_sub_cancel, Nat.not_lt_zero]
      refine ax_brc (fun h0 => ?_) (fun h0 => ?_)
      · rw [if_pos (by omega)] at fin
        rw [enc_none] at fin
        try simp (disch := omega) only [neg2_neg, hc.1.2.1.all, hc.1.2.2.1, hc.1.2.2.2.1.1.all, hc.1.2.2.2.1.all, hc.tab, wr_s, in_nI, clN, ti_z, ti_l, true_and, and_true, kI, zI, rI, kL, zL, rL, kR, zR, nnI, nnL, nnR, iL, iR, lI, lR, exi, exl, exv, eq_self, nI_add, nI_mul, nI_sub, nI_ltI, nI_leI, nI_eq, q0, q1, q2, q3, q4, q5, q6, q10, q100, br_Tr, br_Fa, iI_s, iI_n, bI_q0, bI_q1, or_true, true_or, not_true_eq_false, not_false_eq_true, nI_l, ge64, Nat.lt_irrefl, Nat.add_sub_cancel, Nat.not_lt_zero]
        exact fin
      · rw [if_neg (by omega)] at fin
        refine d131 hc hW9 (by omega) hm ?_
        cases hbs : best a g (hW a h g) m with
        | none =>
          rw [hbs] at fin
          rw [enc_none] at fin
          try simp (disch := omega) only [neg2_neg, hc.1.2.1.all, hc.1.2.2.1, hc.1.2.2.2.1.1.all, hc.1.2.2.2.1.all, hc.tab, show e4 none = -nI 2 by decide +kernel, wr_s, in_nI, clN, ti_z, ti_l, true_and, and_true, kI, zI, rI, kL, zL, rL, kR, zR, nnI, nnL, nnR, iL, iR, lI, lR, exi, exl, exv, eq_self, nI_add, nI_mul, nI_sub, nI_ltI, nI_leI, nI_eq, q0, q1, q2, q3, q4, q5, q6, q10, q100, br_Tr, br_Fa, iI_s, iI_n, bI_q0, bI_q1, or_true, true_or, not_true_eq_false, not_false_eq_true, nI_l, ge64, Nat.lt_irrefl, Nat.add_sub_cancel, Nat.not_lt_zero]
          exact fin
        | some b =>
          rw [hbs] at fin
          have hbi := best_in hc.1.1 hW9 hbs
          try simp (disch := omega) only [neg2_neg, hc.1.2.1.all, hc.1.2.2.1, hc.1.2.2.2.1.1.all, hc.1.2.2.2.1.all, hc.tab, show e4 (some b) = nI b.1 from rfl, lt0, wr_s, in_nI, clN, ti_z, ti_l, true_and, and_true, kI, zI, rI, kL, zL, rL, kR, zR, nnI, nnL, nnR, iL, iR, lI, lR, exi, exl, exv, eq_self, nI_add, nI_mul, nI_sub, nI_ltI, nI_leI, nI_eq, q0, q1, q2, q3, q4, q5, q6, q10, q100, br_Tr, br_Fa, iI_s, iI_n, bI_q0, bI_q1, or_true, true_or, not_true_eq_false, not_false_eq_true, nI_l, ge64, Nat.lt_irrefl, Nat.add_sub_cancel, Nat.not_lt_zero]
          refine d94 (hc.fr ((Fr.refl (PbW c (h * 4 + g)) μm).put (Or.inl rfl)) (fun b k q => by unfold PbW at q; omega)) hW9 hbi.1 hm ?_
          try simp (disch := omega) only [hc.1.2.1.all, hc.1.2.2.1, hc.1.2.2.2.1.1.all, hc.1.2.2.2.1.all, hc.tab, wr_s, in_nI, clN, ti_z, ti_l, true_and, and_true, kI, zI, rI, kL, zL, rL, kR, zR, nnI, nnL, nnR, iL, iR, lI, lR, exi, exl, exv, eq_self, nI_add, nI_mul, nI_sub, nI_ltI, nI_leI, nI_eq, q0, q1, q2, q3, q4, q5, q6, q10, q100, br_Tr, br_Fa, iI_s, iI_n, bI_q0, bI_q1, or_true, true_or, not_true_eq_false, not_false_eq_true, nI_l, ge64, Nat.lt_irrefl, Nat.add_sub_cancel, Nat.not_lt_zero]
          exact fin
    refine sg169_25 l G _ c _ _ _ _ _ _ ?_
    cases m with
    | zero =>
      try simp (disch := omega) only [hc.1.2.1.all, hc.1.2.2.1, hc.1.2.2.2.1.1.all, hc.1.2.2.2.1.all, hc.tab, hm, neg2_neg, wr_s, in_nI, clN, ti_z, ti_l, true_and, and_true, kI, zI, rI, kL, zL, rL, kR, zR, nnI, nnL, nnR, iL, iR, lI, lR, exi, exl, exv, eq_self, nI_add, nI_mul, nI_sub, nI_ltI, nI_leI, nI_eq, q0, q1, q2, q3, q4, q5, q6, q10, q100, br_Tr, br_Fa, iI_s, iI_n, bI_q0, bI_q1, or_true, true_or, not_true_eq_false, not_false_eq_true, nI_l, ge64, Nat.lt_irrefl, Nat.add_sub_cancel, Nat.not_lt_zero]
      exact st rfl
    | succ j =>
      obtain ⟨r1, r2⟩ := hr j (by omega)
      have hbi := (buy_in hc.1.1 hh (show g < 4 by omega) j).1
      try simp (disch := omega) only [hc.1.2.1.all, hc.1.2.2.1, hc.1.2.2.2.1.1.all, hc.1.2.2.2.1.all, hc.tab, hm, r1, r2, show ¬ (j + 1 = 0) by omega, wr_s, in_nI, clN, ti_z, ti_l, true_and, and_true, kI, zI, rI, kL, zL, rL, kR, zR, nnI, nnL, nnR, iL, iR, lI, lR, exi, exl, exv, eq_self, nI_add, nI_mul, nI_sub, nI_ltI, nI_leI, nI_eq, q0, q1, q2, q3, q4, q5, q6, q10, q100, br_Tr, br_Fa, iI_s, iI_n, bI_q0, bI_q1, or_true, true_or, not_true_eq_false, not_false_eq_true, nI_l, ge64, Nat.lt_irrefl, Nat.add_sub_cancel, Nat.not_lt_zero]
      cases hbj : (buy a h g j).1 with
      | none =>
        try simp (disch := omega) only [enc_none, neg2_neg, wr_s, in_nI, clN, ti_z, ti_l, true_and, and_true, kI, zI, rI, kL, zL, rL, kR, zR, nnI, nnL, nnR, iL, iR, lI, lR, exi, exl, exv, eq_self, nI_add, nI_mul, nI_sub, nI_ltI, nI_leI, nI_eq, q0, q1, q2, q3, q4, q5, q6, q10, q100, br_Tr, br_Fa, iI_s, iI_n, bI_q0, bI_q1, or_true, true_or, not_true_eq_false, not_false_eq_true, nI_l, ge64, Nat.lt_irrefl, Nat.add_sub_cancel, Nat.not_lt_zero]
        exact st (by show (match (buy a h g j).1 with | some t => _ | none => _) = _; rw [hbj])
      | some t =>
        have hbt := hbi t hbj
        rw [hbj] at r1
        try simp (disch := omega) only [enc_some, lt0, wr_s, in_nI, clN, ti_z, ti_l, true_and, and_true, kI, zI, rI, kL, zL, rL, kR, zR, nnI, nnL, nnR, iL, iR, lI, lR, exi, exl, exv, eq_self, nI_add, nI_mul, nI_sub, nI_ltI, nI_leI, nI_eq, q0, q1, q2, q3, q4, q5, q6, q10, q100, br_Tr, br_Fa, iI_s, iI_n, bI_q0, bI_q1, or_true, true_or, not_true_eq_false, not_false_eq_true, nI_l, ge64, Nat.lt_irrefl, Nat.add_sub_cancel, Nat.not_lt_zero]
        refine d97 hc hh hbt.1 hm ?_
        try simp (disch := omega) only [wr_s, in_nI, clN, ti_z, ti_l, true_and, and_true, kI, zI, rI, kL, zL, rL, kR, zR, nnI, nnL, nnR, iL, iR, lI, lR, exi, exl, exv, eq_self, nI_add, nI_mul, nI_sub, nI_ltI, nI_leI, nI_eq, q0, q1, q2, q3, q4, q5, q6, q10, q100, br_Tr, br_Fa, iI_s, iI_n, bI_q0, bI_q1, or_true, true_or, not_true_eq_false, not_false_eq_true, nI_l, ge64, Nat.lt_irrefl, Nat.add_sub_cancel, Nat.not_lt_zero]
        have e : buy a h g (j + 1) = if stays a h t (j + 1) = true then buy a h g j else anew a h g (j + 1) := by
          show (match (buy a h g j).1 with | some t => _ | none => _) = _
          rw [hbj]
        refine ax_brc (fun hf => ?_) (fun hf => ?_)
        · exact st (by rw [e, if_neg (by rw [hf]; exact Bool.false_ne_true)])
        · have fin := fin _ (by rw [e, if_pos (by simpa using hf)])
          rw [hbj] at fin
          try simp (disch := omega) only [hc.1.2.1.all, hc.1.2.2.1, hc.1.2.2.2.1.1.all, hc.1.2.2.2.1.all, hc.tab, r1, r2, wr_s, in_nI, clN, ti_z, ti_l, true_and, and_true, kI, zI, rI, kL, zL, rL, kR, zR, nnI, nnL, nnR, iL, iR, lI, lR, exi, exl, exv, eq_self, nI_add, nI_mul, nI_sub, nI_ltI, nI_leI, nI_eq, q0, q1, q2, q3, q4, q5, q6, q10, q100, br_Tr, br_Fa, iI_s, iI_n, bI_q0, bI_q1, or_true, true_or, not_true_eq_false, not_false_eq_true, nI_l, ge64, Nat.lt_irrefl, Nat.add_sub_cancel, Nat.not_lt_zero]
          exact fin
theorem d95 {h t m : Nat} {K : Int32 → ax_M → Prop} (hc : CB μ c L a) (hh : h < nHo a) (ht : t < nTh a) (hm : m < nMo a) (q : K (nI (pcO a h t m)) μ) : ax_CI l G 95 [ax_r (some c), ax_i (nI h), ax_i (nI t), ax_i (nI m)] μ K := by
  have hb := hc.bd
  have hg := hc.1.1.1.tg ht
  have hbi := (buy_in hc.1.1.1 hh (show tG a t < 4 by omega) m).1
  unfold pcO at q
  refine ax_Ct.of (by decide) (Nat.le_of_ble_eq_true rfl) (sg95_0 l G _ c _ _ _ _ ?_)
  try simp (disch := omega) only [hc.1.1.2.1.all, hc.1.1.2.2.1, hc.1.1.2.2.2.1.1.all, hc.1.1.2.2.2.1.all, hc.1.tab, hc.2, wr_s, in_nI, clN, ti_z, ti_l, true_and, and_true, kI, zI, rI, kL, zL, rL, kR, zR, nnI, nnL, nnR, iL, iR, lI, lR, exi, exl, exv, eq_self, nI_add, nI_mul, nI_sub, nI_ltI, nI_leI, nI_eq, q0, q1, q2, q3, q4, q5, q6, q10, q100, br_Tr, br_Fa, iI_s, iI_n, bI_q0, bI_q1, or_true, true_or, not_true_eq_false, not_false_eq_true, nI_l, ge64, Nat.lt_irrefl, Nat.add_sub_cancel, Nat.not_lt_zero]
  refine d6 ?_
  try simp (disch := omega) only [hc.1.1.2.1.all, hc.1.1.2.2.1, hc.1.1.2.2.2.1.1.all, hc.1.1.2.2.2.1.all, hc.1.tab, hc.2, wr_s, in_nI, clN, ti_z, ti_l, true_and, and_true, kI, zI, rI, kL, zL, rL, kR, zR, nnI, nnL, nnR, iL, iR, lI, lR, exi, exl, exv, eq_self, nI_add, nI_mul, nI_sub, nI_ltI, nI_leI, nI_eq, q0, q1, q2, q3, q4, q5, q6, q10, q100, br_Tr, br_Fa, iI_s, iI_n, bI_q0, bI_q1, or_true, true_or, not_true_eq_false, not_false_eq_true, nI_l, ge64, Nat.lt_irrefl, Nat.add_sub_cancel, Nat.not_lt_zero]
  rw [enc_eq (fun t' e => by have := hbi t' e; omega) (by omega)]
  refine ax_brc (fun h1 => ?_) (fun h1 => ?_)
  · rw [if_pos h1] at q; exact q
  · rw [if_neg h1] at q; exact q
theorem d130 {t : Nat} {K : ax_M → Prop} (hc : CB μ c L a) (ht : t < nTh a) (q : ∀ μ', Fr (PA c t) μ μ' → (∀ m, m < nMo a → gI μ' (c + 38 + t) m = nI (allP a t m)) → K μ') : ax_CV l G 130 [ax_r (some c), ax_i (nI t)] μ K := by
  have hb := hc.bd
  refine ax_Ct.of (by decide) (Nat.le_of_ble_eq_true rfl) (sg130_0 l G _ c _ _ ?_)
  refine up_to (P := fun m => ∀ μm, Fr (PA c t) μ μm → (∀ i, i < m → gI μm (c + 38 + t) i = nI (allP a t i)) → (ax_Rw l G ax_h130 (ax_E G ax_h130 (fun x μ' => x = none ∧ K μ')) 2 [(0, ax_r (some c)), (1, ax_i (nI t)), (2, ax_i (nI m))] [] 0 0 μm)) (nMo a) (fun μm f hr => ?_) (fun m hm ih μm f hr => ?_) 0 (Nat.zero_le _) μ (Fr.refl _ _) (fun i hi => by omega)
  · have hc := hc.fr f (fun b k q => by unfold PA at q; omega)
    refine sg130_2 l G _ c _ _ _ ?_
    try simp (disch := omega) only [hc.1.1.2.1.all, hc.1.1.2.2.1, hc.1.1.2.2.2.1.1.all, hc.1.1.2.2.2.1.all, hc.1.tab, hc.2, wr_s, in_nI, clN, ti_z, ti_l, true_and, and_true, kI, zI, rI, kL, zL, rL, kR, zR, nnI, nnL, nnR, iL, iR, lI, lR, exi, exl, exv, eq_self, nI_add, nI_mul, nI_sub, nI_ltI, nI_leI, nI_eq, q0, q1, q2, q3, q4, q5, q6, q10, q100, br_Tr, br_Fa, iI_s, iI_n, bI_q0, bI_q1, or_true, true_or, not_true_eq_false, not_false_eq_true, nI_l, ge64, Nat.lt_irrefl, Nat.add_sub_cancel, Nat.not_lt_zero]
    exact q μm f hr
  · have hc := hc.fr f (fun b k q => by unfold PA at q; omega)
    refine sg130_2 l G _ c _ _ _ ?_
    try simp (disch := omega) only [hc.1.1.2.1.all, hc.1.1.2.2.1, hc.1.1.2.2.2.1.1.all, hc.1.1.2.2.2.1.all, hc.1.tab, hc.2, hm, wr_s, in_nI, clN, ti_z, ti_l, true_and, and_true, kI, zI, rI, kL, zL, rL, kR, zR, nnI, nnL, nnR, iL, iR, lI, lR, exi, exl, exv, eq_self, nI_add, nI_mul, nI_sub, nI_ltI, nI_leI, nI_eq, q0, q1, q2, q3, q4, q5, q6, q10, q100, br_Tr, br_Fa, iI_s, iI_n, bI_q0, bI_q1, or_true, true_or, not_true_eq_false, not_false_eq_true, nI_l, ge64, Nat.lt_irrefl, Nat.add_sub_cancel, Nat.not_lt_zero]
    refine up_to (P := fun h => ∀ μh, Fr (PA c t) μ μh → (∀ i, i < m → gI μh (c + 38 + t) i = nI (allP a t i)) → gI μh (c + 38 + t) m = nI (sumN (fun h => pcO a h t m) h) → (ax_Rw l G ax_h130 (ax_E G ax_h130 (fun x μ' => x = none ∧ K μ')) 24 [(0, ax_r (some c)), (1, ax_i (nI t)), (2, ax_i (nI m)), (3, ax_i (nI h))] [] 0 0 μh)) (nHo a) (fun μh f hr hv => ?_) (fun h hh ih' μh f hr hv => ?_) 0 (Nat.zero_le _) _ (f.put rfl) (fun i hi => ?_) (iI_s _ _ _ _)
    · rename_i hc0 _ _
      have hc := hc0.fr f (fun b k q => by unfold PA at q; omega)
      refine sg130_24 l G _ c _ _ _ _ ?_
      try simp (disch := omega) only [hc.1.1.2.1.all, hc.1.1.2.2.1, hc.1.1.2.2.2.1.1.all, hc.1.1.2.2.2.1.all, hc.1.tab, hc.2, wr_s, in_nI, clN, ti_z, ti_l, true_and, and_true, kI, zI, rI, kL, zL, rL, kR, zR, nnI, nnL, nnR, iL, iR, lI, lR, exi, exl, exv, eq_self, nI_add, nI_mul, nI_sub, nI_ltI, nI_leI, nI_eq, q0, q1, q2, q3, q4, q5, q6, q10, q100, br_Tr, br_Fa, iI_s, iI_n, bI_q0, bI_q1, or_true, true_or, not_true_eq_false, not_false_eq_true, nI_l, ge64, Nat.lt_irrefl, Nat.add_sub_cancel, Nat.not_lt_zero]
      exact ih μh f (lt_s hr hv)
    · rename_i hc0 _ _
      have hc := hc0.fr f (fun b k q => by unfold PA at q; omega)
      refine sg130_24 l G _ c _ _ _ _ ?_
      try simp (disch := omega) only [hc.1.1.2.1.all, hc.1.1.2.2.1, hc.1.1.2.2.2.1.1.all, hc.1.1.2.2.2.1.all, hc.1.tab, hc.2, hh, wr_s, in_nI, clN, ti_z, ti_l, true_and, and_true, kI, zI, rI, kL, zL, rL, kR, zR, nnI, nnL, nnR, iL, iR, lI, lR, exi, exl, exv, eq_self, nI_add, nI_mul, nI_sub, nI_ltI, nI_leI, nI_eq, q0, q1, q2, q3, q4, q5, q6, q10, q100, br_Tr, br_Fa, iI_s, iI_n, bI_q0, bI_q1, or_true, true_or, not_true_eq_false, not_false_eq_true, nI_l, ge64, Nat.lt_irrefl, Nat.add_sub_cancel, Nat.not_lt_zero]
      refine d95 hc hh ht hm ?_
      try simp (disch := omega) only [hc.1.1.2.1.all, hc.1.1.2.2.1, hc.1.1.2.2.2.1.1.all, hc.1.1.2.2.2.1.all, hc.1.tab, hc.2, hv, wr_s, in_nI, clN, ti_z, ti_l, true_and, and_true, kI, zI, rI, kL, zL, rL, kR, zR, nnI, nnL, nnR, iL, iR, lI, lR, exi, exl, exv, eq_self, nI_add, nI_mul, nI_sub, nI_ltI, nI_leI, nI_eq, q0, q1, q2, q3, q4, q5, q6, q10, q100, br_Tr, br_Fa, iI_s, iI_n, bI_q0, bI_q1, or_true, true_or, not_true_eq_false, not_false_eq_true, nI_l, ge64, Nat.lt_irrefl, Nat.add_sub_cancel, Nat.not_lt_zero]
      refine ih' _ (f.put rfl) (fun i hi => ?_) (iI_s _ _ _ _)
      rw [iI_n (by omega)]; exact hr i hi
    · rw [iI_n (by omega)]; exact hr i hi
end C4
