section C5
variable {l : Launch} {G : ax_G} {μ : ax_M} {c L : Nat} {a : Ld}
theorem isCourse.sR8 {x : Option Nat} (h : isCourse μ c) (hc : 64 ≤ c) : isCourse (sR μ c 8 x) c := by
  obtain ⟨h1, h2⟩ := h
  unfold isCourse isGrid at *
  simp (disch := omega) only [kR, zR, rR_n] at *
  exact ⟨h1, h2⟩
theorem isLand.sR {x : Option Nat} {b k : Nat} (h : isLand μ L) (hb : b < L ∨ L + 42 ≤ b) : isLand (sR μ b k x) L := by
  unfold isLand isRow at *
  obtain ⟨h0, h1, h2, h3, h4, h5⟩ := h
  simp only [kR, zR]
  rw [rR_n (by omega), rR_n (by omega), rR_n (by omega), rR_n (by omega)]
  refine ⟨h0, ⟨h1.1, h1.2.1, h1.2.2.1, h1.2.2.2.1, fun t ht => ?_, h1.2.2.2.2.2⟩, ⟨h2.1, h2.2.1, h2.2.2.1, h2.2.2.2.1, fun t ht => ?_, h2.2.2.2.2.2⟩, ⟨h3.1, h3.2.1, h3.2.2.1, h3.2.2.2.1, fun t ht => ?_, h3.2.2.2.2.2⟩, ⟨h4.1, h4.2.1, h4.2.2.1, h4.2.2.2.1, fun t ht => ?_, h4.2.2.2.2.2⟩, fun t ht => ?_⟩
  · rw [rR_n (by omega)]; exact h1.2.2.2.2.1 t ht
  · rw [rR_n (by omega)]; exact h2.2.2.2.2.1 t ht
  · rw [rR_n (by omega)]; exact h3.2.2.2.2.1 t ht
  · rw [rR_n (by omega)]; exact h4.2.2.2.2.1 t ht
  · rw [rR_n (by omega)]; exact h5 t ht
theorem RepL.sR {x : Option Nat} {b k : Nat} (h : RepL μ L a) (hb : b < L ∨ L + 42 ≤ b) : RepL (sR μ b k x) L a := ⟨h.1.sR hb, h.2⟩
theorem d184 {K : ax_M → Prop} (ha : LdOk a) (hc : isCourse μ c) (hl : RepL μ L a) (hd : L + 42 ≤ c ∨ c + 81 ≤ L) (q : ∀ μ', Fr (PC c) (sR μ c 8 (some L)) μ' → CA μ' c L a → K μ') : ax_CV l G 184 [ax_r (some c), ax_r (some L)] μ K := by
  have hw : WL (sR μ c 8 (some L)) c L a := ⟨ha, hc.sR8 hc.ge, rR_s _ _ _ _, hl.sR (by omega), hd⟩
  refine ax_Ct.of (by decide) (Nat.le_of_ble_eq_true rfl) (sg184_0 l G _ c L _ ?_)
  try simp (disch := omega) only [hc.all, hc.ge, wr_s, in_nI, clN, ti_z, ti_l, true_and, and_true, kI, zI, rI, kL, zL, rL, kR, zR, nnI, nnL, nnR, iL, iR, lI, lR, exi, exl, exv, eq_self, nI_add, nI_mul, nI_sub, nI_ltI, nI_leI, nI_eq, q0, q1, q2, q3, q4, q5, q6, q10, q100, br_Tr, br_Fa, iI_s, iI_n, bI_q0, bI_q1, or_true, true_or, not_true_eq_false, not_false_eq_true, nI_l, ge64, Nat.lt_irrefl, Nat.add_sub_cancel, Nat.not_lt_zero]
  have hb := hw.bd
  generalize sR μ c 8 (some L) = ν at hw q
  refine up_to (P := fun t => ∀ μt, Fr (PC c) ν μt → (∀ i, i < t → ∀ m, m < nMo a → RepT μt c a i m ∧ gI μt (c + 29 + i) m = nI (lst a i m)) → (ax_Rw l G ax_h184 (ax_E G ax_h184 (fun x μ' => x = none ∧ K μ')) 7 [(0, ax_r (some c)), (2, ax_i (nI t))] [] 0 0 μt)) (nTh a) (fun μt f hr => ?_) (fun t ht ih μt f hr => ?_) 0 (Nat.zero_le _) ν (Fr.refl _ _) (fun i hi => by omega)
  · have hct : CT μt c L a := ⟨hw.fr f (fun b k q => by unfold PC at q; omega), fun t m ht hm => hr t ht m hm⟩
    refine sg184_7 l G _ c _ _ ?_
    try simp (disch := omega) only [hct.1.2.1.all, hct.1.2.2.1, hct.1.2.2.2.1.1.all, hct.1.2.2.2.1.all, hct.tab, wr_s, in_nI, clN, ti_z, ti_l, true_and, and_true, kI, zI, rI, kL, zL, rL, kR, zR, nnI, nnL, nnR, iL, iR, lI, lR, exi, exl, exv, eq_self, nI_add, nI_mul, nI_sub, nI_ltI, nI_leI, nI_eq, q0, q1, q2, q3, q4, q5, q6, q10, q100, br_Tr, br_Fa, iI_s, iI_n, bI_q0, bI_q1, or_true, true_or, not_true_eq_false, not_false_eq_true, nI_l, ge64, Nat.lt_irrefl, Nat.add_sub_cancel, Nat.not_lt_zero]
    refine up_to (P := fun h => ∀ μt, Fr (PC c) ν μt → CT μt c L a → (∀ i, i < h → ∀ g m, g < nGr a → m < nMo a → gI μt (c + 56 + (i * 4 + g)) m = enc (buy a i g m).1 ∧ gI μt (c + 69 + (i * 4 + g)) m = nI (buy a i g m).2) → (ax_Rw l G ax_h184 (ax_E G ax_h184 (fun x μ' => x = none ∧ K μ')) 31 [(0, ax_r (some c)), (2, ax_i (nI h))] [] 0 0 μt)) (nHo a) (fun μt f hct hr => ?_) (fun h hh ih μt f hct hr => ?_) 0 (Nat.zero_le _) μt f hct (fun i hi => by omega)
    · have hcb : CB μt c L a := ⟨hct, fun h g m hh hg hm => hr h hh g m hg hm⟩
      refine sg184_31 l G _ c _ _ ?_
      try simp (disch := omega) only [hct.1.2.1.all, hct.1.2.2.1, hct.1.2.2.2.1.1.all, hct.1.2.2.2.1.all, hct.tab, wr_s, in_nI, clN, ti_z, ti_l, true_and, and_true, kI, zI, rI, kL, zL, rL, kR, zR, nnI, nnL, nnR, iL, iR, lI, lR, exi, exl, exv, eq_self, nI_add, nI_mul, nI_sub, nI_ltI, nI_leI, nI_eq, q0, q1, q2, q3, q4, q5, q6, q10, q100, br_Tr, br_Fa, iI_s, iI_n, bI_q0, bI_q1, or_true, true_or, not_true_eq_false, not_false_eq_true, nI_l, ge64, Nat.lt_irrefl, Nat.add_sub_cancel, Nat.not_lt_zero]
      refine up_to (P := fun t => ∀ μt, Fr (PC c) ν μt → CB μt c L a → (∀ i, i < t → ∀ m, m < nMo a → gI μt (c + 38 + i) m = nI (allP a i m)) → (ax_Rw l G ax_h184 (ax_E G ax_h184 (fun x μ' => x = none ∧ K μ')) 75 [(0, ax_r (some c)), (2, ax_i (nI t))] [] 0 0 μt)) (nTh a) (fun μt f hcb hr => ?_) (fun t ht ih μt f hcb hr => ?_) 0 (Nat.zero_le _) μt f hcb (fun i hi => by omega)
      · refine sg184_75 l G _ c _ _ ?_
        try simp (disch := omega) only [hcb.1.1.2.1.all, hcb.1.1.2.2.1, hcb.1.1.2.2.2.1.1.all, hcb.1.1.2.2.2.1.all, hcb.1.tab, hcb.2, wr_s, in_nI, clN, ti_z, ti_l, true_and, and_true, kI, zI, rI, kL, zL, rL, kR, zR, nnI, nnL, nnR, iL, iR, lI, lR, exi, exl, exv, eq_self, nI_add, nI_mul, nI_sub, nI_ltI, nI_leI, nI_eq, q0, q1, q2, q3, q4, q5, q6, q10, q100, br_Tr, br_Fa, iI_s, iI_n, bI_q0, bI_q1, or_true, true_or, not_true_eq_false, not_false_eq_true, nI_l, ge64, Nat.lt_irrefl, Nat.add_sub_cancel, Nat.not_lt_zero]
        exact q μt f ⟨hcb, fun t m ht hm => hr t ht m hm⟩
      · refine sg184_75 l G _ c _ _ ?_
        try simp (disch := omega) only [hcb.1.1.2.1.all, hcb.1.1.2.2.1, hcb.1.1.2.2.2.1.1.all, hcb.1.1.2.2.2.1.all, hcb.1.tab, hcb.2, ht, wr_s, in_nI, clN, ti_z, ti_l, true_and, and_true, kI, zI, rI, kL, zL, rL, kR, zR, nnI, nnL, nnR, iL, iR, lI, lR, exi, exl, exv, eq_self, nI_add, nI_mul, nI_sub, nI_ltI, nI_leI, nI_eq, q0, q1, q2, q3, q4, q5, q6, q10, q100, br_Tr, br_Fa, iI_s, iI_n, bI_q0, bI_q1, or_true, true_or, not_true_eq_false, not_false_eq_true, nI_l, ge64, Nat.lt_irrefl, Nat.add_sub_cancel, Nat.not_lt_zero]
        refine d130 hcb ht (fun μ' f' h' => ?_)
        refine ih μ' (f.trans (f'.mono (fun b k q => by unfold PA at q; unfold PC; omega))) (hcb.fr f' (fun b k q => by unfold PA at q; omega)) (lt_s (fun i hi m hm => ?_) h')
        rw [f'.I (fun q => by unfold PA at q; omega)]; exact hr i hi m hm
    · refine sg184_31 l G _ c _ _ ?_
      try simp (disch := omega) only [hct.1.2.1.all, hct.1.2.2.1, hct.1.2.2.2.1.1.all, hct.1.2.2.2.1.all, hct.tab, hh, wr_s, in_nI, clN, ti_z, ti_l, true_and, and_true, kI, zI, rI, kL, zL, rL, kR, zR, nnI, nnL, nnR, iL, iR, lI, lR, exi, exl, exv, eq_self, nI_add, nI_mul, nI_sub, nI_ltI, nI_leI, nI_eq, q0, q1, q2, q3, q4, q5, q6, q10, q100, br_Tr, br_Fa, iI_s, iI_n, bI_q0, bI_q1, or_true, true_or, not_true_eq_false, not_false_eq_true, nI_l, ge64, Nat.lt_irrefl, Nat.add_sub_cancel, Nat.not_lt_zero]
      refine up_to (P := fun g => ∀ μt, Fr (PC c) ν μt → CT μt c L a → (∀ i, i < h → ∀ g m, g < nGr a → m < nMo a → gI μt (c + 56 + (i * 4 + g)) m = enc (buy a i g m).1 ∧ gI μt (c + 69 + (i * 4 + g)) m = nI (buy a i g m).2) → (∀ j, j < g → ∀ m, m < nMo a → gI μt (c + 56 + (h * 4 + j)) m = enc (buy a h j m).1 ∧ gI μt (c + 69 + (h * 4 + j)) m = nI (buy a h j m).2) → (ax_Rw l G ax_h184 (ax_E G ax_h184 (fun x μ' => x = none ∧ K μ')) 44 [(0, ax_r (some c)), (2, ax_i (nI h)), (3, ax_i (nI g))] [] 0 0 μt)) (nGr a) (fun μt f hct hr hr' => ?_) (fun g hg ih' μt f hct hr hr' => ?_) 0 (Nat.zero_le _) μt f hct hr (fun i hi => by omega)
      · refine sg184_44 l G _ c _ _ _ ?_
        try simp (disch := omega) only [hct.1.2.1.all, hct.1.2.2.1, hct.1.2.2.2.1.1.all, hct.1.2.2.2.1.all, hct.tab, wr_s, in_nI, clN, ti_z, ti_l, true_and, and_true, kI, zI, rI, kL, zL, rL, kR, zR, nnI, nnL, nnR, iL, iR, lI, lR, exi, exl, exv, eq_self, nI_add, nI_mul, nI_sub, nI_ltI, nI_leI, nI_eq, q0, q1, q2, q3, q4, q5, q6, q10, q100, br_Tr, br_Fa, iI_s, iI_n, bI_q0, bI_q1, or_true, true_or, not_true_eq_false, not_false_eq_true, nI_l, ge64, Nat.lt_irrefl, Nat.add_sub_cancel, Nat.not_lt_zero]
        exact ih μt f hct (lt_s hr (fun g m hg hm => hr' g hg m hm))
      · refine sg184_44 l G _ c _ _ _ ?_
        try simp (disch := omega) only [hct.1.2.1.all, hct.1.2.2.1, hct.1.2.2.2.1.1.all, hct.1.2.2.2.1.all, hct.tab, hg, wr_s, in_nI, clN, ti_z, ti_l, true_and, and_true, kI, zI, rI, kL, zL, rL, kR, zR, nnI, nnL, nnR, iL, iR, lI, lR, exi, exl, exv, eq_self, nI_add, nI_mul, nI_sub, nI_ltI, nI_leI, nI_eq, q0, q1, q2, q3, q4, q5, q6, q10, q100, br_Tr, br_Fa, iI_s, iI_n, bI_q0, bI_q1, or_true, true_or, not_true_eq_false, not_false_eq_true, nI_l, ge64, Nat.lt_irrefl, Nat.add_sub_cancel, Nat.not_lt_zero]
        refine d169 hct hh hg (fun μ' f' h' => ?_)
        refine ih' μ' (f.trans (f'.mono (fun b k q => by unfold PbW at q; unfold PC; omega))) (hct.fr f' (fun b k q => by unfold PbW at q; omega)) (fun i hi j m hj hm => ?_) (lt_s (fun j hj m hm => ?_) h')
        · rw [f'.I (fun q => by unfold PbW at q; omega), f'.I (fun q => by unfold PbW at q; omega)]; exact hr i hi j m hj hm
        · rw [f'.I (fun q => by unfold PbW at q; omega), f'.I (fun q => by unfold PbW at q; omega)]; exact hr' j hj m hm
  · have hw := hw.fr f (fun b k q => by unfold PC at q; omega)
    refine sg184_7 l G _ c _ _ ?_
    try simp (disch := omega) only [hw.2.1.all, hw.2.2.1, hw.2.2.2.1.1.all, hw.2.2.2.1.all, ht, wr_s, in_nI, clN, ti_z, ti_l, true_and, and_true, kI, zI, rI, kL, zL, rL, kR, zR, nnI, nnL, nnR, iL, iR, lI, lR, exi, exl, exv, eq_self, nI_add, nI_mul, nI_sub, nI_ltI, nI_leI, nI_eq, q0, q1, q2, q3, q4, q5, q6, q10, q100, br_Tr, br_Fa, iI_s, iI_n, bI_q0, bI_q1, or_true, true_or, not_true_eq_false, not_false_eq_true, nI_l, ge64, Nat.lt_irrefl, Nat.add_sub_cancel, Nat.not_lt_zero]
    refine d135 hw ht (fun μ' f' h' => ?_)
    refine ih μ' (f.trans (f'.mono (fun b k q => by unfold PrT at q; unfold PC; omega))) (lt_s (fun i hi m hm => ?_) h')
    unfold RepT
    rw [f'.I (fun q => by unfold PrT at q; omega), f'.I (fun q => by unfold PrT at q; omega), f'.I (fun q => by unfold PrT at q; omega), f'.I (fun q => by unfold PrT at q; omega), f'.I (fun q => by unfold PrT at q; omega)]
    exact hr i hi m hm
end C5
