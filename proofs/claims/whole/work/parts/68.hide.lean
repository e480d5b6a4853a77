/-! a maker's trial -/
def cw (w : Nat) : Nat := if w = 0 then 0 else if w = 1 then 2 else 3
def gn (a : Ld) (t m b w : Nat) : Nat := if w = 0 then b * allP (adc a t m (cw w) b) t m else b * allP (adc a t m (cw w) b) t m * Pr (adc a t m (cw w) b) t m / (if w = 1 then Sz a t m else Sf a t m)
def hid (a : Ld) (t m b o w : Nat) : Bool := allN (fun h => decide (pcO a h t m ≤ pcO (adc a t m (cw w) b) h t m)) (nHo a) && decide (num (adc a t m (cw w) b) o m ≤ num a o m)
def hdB (o : Option (Nat × Nat)) (g : Nat) : Bool := match o with
  | none => true
  | some p => decide (p.2 < g)
def hdK (a : Ld) (t m b o : Nat) : Nat → Option (Nat × Nat)
  | 0 => none
  | w + 1 => if (hid a t m b o w && hdB (hdK a t m b o w) (gn a t m b w)) = true then some (w, gn a t m b w) else hdK a t m b o w
theorem gn_in {a : Ld} (ha : LdOk a) {t m b w : Nat} (ht : t < nTh a) (h1 : 1 ≤ m) (hm : m < nMo a) (hb1 : 1 ≤ b) (hb : b ≤ 99) (hc : nCh a < 20) : b * allP (adc a t m (cw w) b) t m ≤ 29403 ∧ b * allP (adc a t m (cw w) b) t m * Pr (adc a t m (cw w) b) t m ≤ 29373597 ∧ gn a t m b w ≤ 29373597 := by
  have hw : cw w ≤ 6 := by unfold cw; split <;> (try split) <;> omega
  have ha' := adc_ok (b := b) ha ht h1 hm hw (by omega) hc
  have p1 := allP_in ha' (t := t) (m := m) ht
  have p2 := (stt_in ha' (t := t) ht m).2.2
  have e1 : b * allP (adc a t m (cw w) b) t m ≤ 99 * 297 := Nat.mul_le_mul hb p1
  have e2 : b * allP (adc a t m (cw w) b) t m * Pr (adc a t m (cw w) b) t m ≤ 29403 * 999 := Nat.mul_le_mul e1 p2.2
  refine ⟨e1, e2, ?_⟩
  unfold gn
  split
  · omega
  · exact Nat.le_trans (Nat.div_le_self _ _) e2
theorem hdK_in {a : Ld} (ha : LdOk a) {t m b o : Nat} (ht : t < nTh a) (h1 : 1 ≤ m) (hm : m < nMo a) (hb1 : 1 ≤ b) (hb : b ≤ 99) (hc : nCh a < 20) : ∀ w p, hdK a t m b o w = some p → p.1 < w ∧ p.2 ≤ 29373597
  | 0, p, h => by cases h
  | w + 1, p, h => by
    unfold hdK at h
    split at h
    · cases h
      exact ⟨by omega, (gn_in ha ht h1 hm hb1 hb hc).2.2⟩
    · have ih := hdK_in ha ht h1 hm hb1 hb hc w p h
      exact ⟨by omega, ih.2⟩
/-- the trial's tables, of a land that has gone again -/
def TR (μ : ax_M) (L : Nat) (a : Ld) : Prop := gR μ 244 8 = some L ∧ (∀ t m, t < nTh a → m < nMo a → gI μ (244 + 20 + t) m = nI (Pr a t m) ∧ gI μ (244 + 38 + t) m = nI (allP a t m)) ∧ (∀ h g m, h < nHo a → g < nGr a → m < nMo a → gI μ (244 + 56 + (h * 4 + g)) m = enc (buy a h g m).1 ∧ gI μ (244 + 69 + (h * 4 + g)) m = nI (buy a h g m).2) ∧ (∀ o m, o < nOf a → m < nMo a → gI μ (325 + 2 + o) m = nI (num a o m))
theorem isTop.sR {μ : ax_M} {L M b k : Nat} {x : Option Nat} (h : isTop μ L M) (hb : b ≠ 64) : isTop (sR μ b k x) L M := by
  obtain ⟨h1, h2, h3, h4, h5, h6, h7, h8, h9, h10⟩ := h
  exact ⟨h1, by rw [rR_n (by omega)]; exact h2, by rw [rR_n (by omega)]; exact h3, by rw [rR_n (by omega)]; exact h4, by rw [rR_n (by omega)]; exact h5, by rw [rR_n (by omega)]; exact h6, by rw [rR_n (by omega)]; exact h7, by rw [rR_n (by omega)]; exact h8, by rw [rR_n (by omega)]; exact h9, h10⟩
theorem isReader.sR {μ : ax_M} {b k : Nat} {x : Option Nat} (h : isReader μ) (hb : b < 150 ∨ 156 ≤ b) : isReader (sR μ b k x) := by
  obtain ⟨h1, h2, h3, h4, h5, h6, h7, h8⟩ := h
  obtain ⟨g1, g2, g3, g4, g5, g6, g7, g8⟩ := h8
  exact ⟨h1, by rw [rR_n (by omega)]; exact h2, by rw [rR_n (by omega)]; exact h3, h4, by rw [rR_n (by omega)]; exact h5, by rw [rR_n (by omega)]; exact h6, by rw [rR_n (by omega)]; exact h7, g1, g2, g3, g4, g5, g6, g7, by rw [rR_n (by omega)]; exact g8⟩
theorem XS.q {μ : ax_M} {L M : Nat} {x y : Option Nat} (h : XS μ L M) : XS (sR (sR μ 325 4 x) 244 8 y) L M := by
  obtain ⟨h1, h2, h3, h4, h5, h6, h7, h8, h9⟩ := h
  refine ⟨(h1.sR (by decide)).sR (by decide), h2, (h3.sR (by omega)).sR (by omega), (h4.sR (by omega)).sR (by omega), (h5.sR (by omega)).sR (by omega), (h6.oR (by omega)).oR (by omega), (h7.sR (Or.inl (by omega))).sR (Or.inl (by omega)), (h8.oR (by omega)).sR8 (by omega), (h9.sR (Or.inr ⟨rfl, rfl⟩)).sR (Or.inl (by omega))⟩
theorem TN.sRo {μ : ax_M} {y c L b k : Nat} {x : Option Nat} {a : Ld} (h : TN μ y c L a) (h1 : b < c ∨ c + 81 ≤ b) (h2 : b < y ∨ y + 7 ≤ b) (h3 : b < L ∨ L + 42 ≤ b) : TN (sR μ b k x) y c L a := by
  obtain ⟨⟨⟨⟨⟨⟨ha, hc, hcl, hl, hd⟩, hT⟩, hB⟩, hA⟩, hy, hyl, hd2⟩, hN⟩ := h
  have := hc.ge
  have := hy.1.1
  exact ⟨⟨⟨⟨⟨⟨ha, hc.oR h1, by rw [rR_n (by omega)]; exact hcl, hl.sR h3, hd⟩, hT⟩, hB⟩, hA⟩, hy.sR (Or.inl h2), by rw [rR_n (by omega)]; exact hyl, hd2⟩, hN⟩
theorem XW.q2 {μ : ax_M} {st : St} {L M : Nat} {x y : Option Nat} (h : XW μ st L M) : XW (sR (sR μ 325 4 x) 244 8 y) st L M := by
  have hb := h.bd
  exact ⟨h.1.q, h.2.1, h.2.2.1, h.2.2.2.1, h.2.2.2.2.1, h.2.2.2.2.2.1, fun a ha => ((h.2.2.2.2.2.2 a ha).sRo (by omega) (by omega) (by omega)).sRo (by omega) (by omega) (by omega)⟩
/-- ints that may change while the land stays what it is -/
theorem XW.fz {P : Nat → Nat → Prop} {μ μ1 : ax_M} {st : St} {L M : Nat} (h : XW μ st L M) (f : Fr P μ μ1) (hp : ∀ b k, P b k → (b < 64 ∨ 332 ≤ b) ∨ (M ≤ b ∧ b < M + 42) ∨ (244 ≤ b ∧ b < 332) ∨ (L + 13 + cn st 3 ≤ b ∧ b < L + 33)) : XW μ1 st L M := by
  have hb := h.bd
  obtain ⟨hs, g1, g2, g3, g4, g5, g6⟩ := h
  refine ⟨hs.fr f, ?_, g2, fun e => ?_, fun i hi => ?_, fun k hk => ?_, fun a ha => ?_⟩
  · rw [f.I (fun q => by have := hp _ _ q; omega), f.I (fun q => by have := hp _ _ q; omega), f.I (fun q => by have := hp _ _ q; omega)]
    exact g1
  · rw [f.I (fun q => by have := hp _ _ q; omega)]
    exact g3 e
  · rw [f.I (fun q => by have := hp _ _ q; omega)]
    exact g4 i hi
  · rw [f.I (fun q => by have := hp _ _ q; omega)]
    exact g5 k hk
  · have hcn : cn st 3 = nCh a := cn_a ha 3
    have ht := g6 a ha
    have hba := ht.bd
    obtain ⟨⟨⟨⟨⟨⟨hok, hc, hcl, hl, hd⟩, hT⟩, hB⟩, hA⟩, hy, hyl, hd2⟩, hN⟩ := ht
    refine ⟨⟨⟨⟨⟨⟨hok, hc.fr f, by rw [f.R]; exact hcl, ?_, hd⟩, fun t m ht hm => ?_⟩, fun x y m hh hg hm => ?_⟩, fun t m ht hm => ?_⟩, hy.fr f, by rw [f.R]; exact hyl, hd2⟩, fun o m ho hm => ?_⟩
    · obtain ⟨h0, h1, h2, h3, h4, h5⟩ := hl
      refine ⟨h0.fr f, fun k hk => ?_, fun t ht f' hf => ?_, fun k hk => ⟨fun f' hf => ?_, fun hh => ?_⟩, fun k hk => ⟨?_, ?_, fun g hg => ?_⟩, fun o ho f' hf => ?_⟩
      · rw [f.I (fun q => by have := hp _ _ q; omega)]; exact h1 k hk
      · rw [f.I (fun q => by have := hp _ _ q; omega)]; exact h2 t ht f' hf
      · rw [f.I (fun q => by have := hp _ _ q; omega)]; exact (h3 k hk).1 f' hf
      · rw [f.I (fun q => by have := hp _ _ q; omega)]; exact (h3 k hk).2 hh
      · rw [f.I (fun q => by have := hp _ _ q; omega)]; exact (h4 k hk).1
      · rw [f.I (fun q => by have := hp _ _ q; omega)]; exact (h4 k hk).2.1
      · rw [f.I (fun q => by have := hp _ _ q; omega)]; exact (h4 k hk).2.2 g hg
      · rw [f.I (fun q => by have := hp _ _ q; omega)]; exact h5 o ho f' hf
    · obtain ⟨⟨h1, h2, h3, h4⟩, h5⟩ := hT t m ht hm
      unfold RepT
      rw [f.I (fun q => by have := hp _ _ q; omega), f.I (fun q => by have := hp _ _ q; omega), f.I (fun q => by have := hp _ _ q; omega), f.I (fun q => by have := hp _ _ q; omega), f.I (fun q => by have := hp _ _ q; omega)]
      exact ⟨⟨h1, h2, h3, h4⟩, h5⟩
    · rw [f.I (fun q => by have := hp _ _ q; omega), f.I (fun q => by have := hp _ _ q; omega)]
      exact hB x y m hh hg hm
    · rw [f.I (fun q => by have := hp _ _ q; omega)]
      exact hA t m ht hm
    · rw [f.I (fun q => by have := hp _ _ q; omega)]
      exact hN o m ho hm
section E5
variable {l : Launch} {G : ax_G} {μ : ax_M} {L M : Nat} {st : St} {a : Ld}
theorem d0 {w : Nat} {K : Int32 → ax_M → Prop} (hw : w < 3) (q : K (nI (cw w)) μ) : ax_CI l G 0 [ax_i (nI w)] μ K := by
  refine ax_Ct.of (by decide) (Nat.le_of_ble_eq_true rfl) (sg0_0 l G _ _ _ ?_)
  try simp (disch := omega) only [wr_s, in_nI, clN, ti_z, ti_l, true_and, and_true, kI, zI, rI, kL, zL, rL, kR, zR, nnI, nnL, nnR, iL, iR, lI, lR, exi, exl, exv, eq_self, nI_add, nI_mul, nI_sub, nI_ltI, nI_leI, nI_eq, q0, q1, q2, q3, q4, q5, q6, q10, q100, br_Tr, br_Fa, iI_s, iI_n, bI_q0, bI_q1, or_true, true_or, not_true_eq_false, not_false_eq_true, nI_l, ge64, Nat.lt_irrefl, Nat.add_sub_cancel, Nat.not_lt_zero, lN_0, lN_1e4, lN_1e6, lN_1e3, lN_add, lN_mul, lN_ltI, lN_leI, lN_eqI, lN_i, lcE, lcLe, lcLt, lN_div]
  unfold cw at q
  refine ax_brc (fun h => by rw [if_pos h] at q; exact q) (fun h => ?_)
  rw [if_neg h] at q
  exact ax_brc (fun h => by rw [if_pos h] at q; exact q) (fun h => by rw [if_neg h] at q; exact q)
theorem d210 {t m b w : Nat} {K : ax_M → Prop} (hx : XW μ st L M) (ht : t < cn st 2) (h1 : 1 ≤ m) (hm : m < cn st 0) (hb1 : 1 ≤ b) (hb9 : b ≤ 99) (hc : cn st 3 < 20) (hw : w < 3) (q : ∀ μ', Out 64 332 μ μ' → XW μ' st L M → TR μ' L (adc (ldo st) t m (cw w) b) → K μ') : ax_CV l G 210 [ax_r (some 64), ax_i (nI t), ax_i (nI m), ax_i (nI b), ax_i (nI w)] μ K := by
  have hb := hx.bd
  obtain ⟨hn, he⟩ := hx.tn ht
  have hba := hn.bd
  have ha := hn.1.1.1.1.1.1
  have hcw : cw w ≤ 6 := by unfold cw; split <;> (try split) <;> omega
  have ha' := adc_ok (t := t) (m := m) (h := cw w) (b := b) ha (by omega) h1 (by omega) hcw (by omega) (by omega)
  refine ax_Ct.of (by decide) (Nat.le_of_ble_eq_true rfl) (sg210_0 l G _ 64 _ _ _ _ _ ?_)
  try simp (disch := omega) only [hx.all, wr_s, in_nI, clN, ti_z, ti_l, true_and, and_true, kI, zI, rI, kL, zL, rL, kR, zR, nnI, nnL, nnR, iL, iR, lI, lR, exi, exl, exv, eq_self, nI_add, nI_mul, nI_sub, nI_ltI, nI_leI, nI_eq, q0, q1, q2, q3, q4, q5, q6, q10, q100, br_Tr, br_Fa, iI_s, iI_n, bI_q0, bI_q1, or_true, true_or, not_true_eq_false, not_false_eq_true, nI_l, ge64, Nat.lt_irrefl, Nat.add_sub_cancel, Nat.not_lt_zero, lN_0, lN_1e4, lN_1e6, lN_1e3, lN_add, lN_mul, lN_ltI, lN_leI, lN_eqI, lN_i, lcE, lcLe, lcLt, lN_div]
  refine d0 hw ?_
  try simp (disch := omega) only [hx.all, wr_s, in_nI, clN, ti_z, ti_l, true_and, and_true, kI, zI, rI, kL, zL, rL, kR, zR, nnI, nnL, nnR, iL, iR, lI, lR, exi, exl, exv, eq_self, nI_add, nI_mul, nI_sub, nI_ltI, nI_leI, nI_eq, q0, q1, q2, q3, q4, q5, q6, q10, q100, br_Tr, br_Fa, iI_s, iI_n, bI_q0, bI_q1, or_true, true_or, not_true_eq_false, not_false_eq_true, nI_l, ge64, Nat.lt_irrefl, Nat.add_sub_cancel, Nat.not_lt_zero, lN_0, lN_1e4, lN_1e6, lN_1e3, lN_add, lN_mul, lN_ltI, lN_leI, lN_eqI, lN_i, lcE, lcLe, lcLt, lN_div]
  refine d16 (b := b) ha hn.1.1.1.1.1.2.2.2.1 (by omega) (fun _ => rfl) (fun μ1 f1 hr => ?_)
  have hs1 := hx.1.fr f1
  try simp (disch := omega) only [hs1.1.1, hs1.1.2.2.1, hs1.1.2.2.2.2.2.2.2.2.1, hs1.2.2.2.2.2.2.2.2.1.2.1, wr_s, in_nI, clN, ti_z, ti_l, true_and, and_true, kI, zI, rI, kL, zL, rL, kR, zR, nnI, nnL, nnR, iL, iR, lI, lR, exi, exl, exv, eq_self, nI_add, nI_mul, nI_sub, nI_ltI, nI_leI, nI_eq, q0, q1, q2, q3, q4, q5, q6, q10, q100, br_Tr, br_Fa, iI_s, iI_n, bI_q0, bI_q1, or_true, true_or, not_true_eq_false, not_false_eq_true, nI_l, ge64, Nat.lt_irrefl, Nat.add_sub_cancel, Nat.not_lt_zero, lN_0, lN_1e4, lN_1e6, lN_1e3, lN_add, lN_mul, lN_ltI, lN_leI, lN_eqI, lN_i, lcE, lcLe, lcLt, lN_div]
  refine d199 ha' hs1.2.2.2.2.2.2.2.1 hr hs1.2.2.2.2.2.2.2.2 (by omega) (by omega) (by omega) (fun μ2 f2 h2 => ?_)
  have hs2 := (hs1.q (x := some L) (y := some L)).fr f2
  try simp (disch := omega) only [hs2.1.1, hs2.1.2.2.1, hs2.2.2.2.1.k, wr_s, in_nI, clN, ti_z, ti_l, true_and, and_true, kI, zI, rI, kL, zL, rL, kR, zR, nnI, nnL, nnR, iL, iR, lI, lR, exi, exl, exv, eq_self, nI_add, nI_mul, nI_sub, nI_ltI, nI_leI, nI_eq, q0, q1, q2, q3, q4, q5, q6, q10, q100, br_Tr, br_Fa, iI_s, iI_n, bI_q0, bI_q1, or_true, true_or, not_true_eq_false, not_false_eq_true, nI_l, ge64, Nat.lt_irrefl, Nat.add_sub_cancel, Nat.not_lt_zero, lN_0, lN_1e4, lN_1e6, lN_1e3, lN_add, lN_mul, lN_ltI, lN_leI, lN_eqI, lN_i, lcE, lcLe, lcLt, lN_div]
  refine d17 (n := nCh (ldo st)) hs2.2.2.2.1.k (by omega) ?_ (by omega) ?_
  · exact h2.1.1.1.1.1.2.2.2.1.all.1.2.2.2.1
  · have o1 : Out 64 332 μ μ2 := ((((Out.refl 64 332 μ).F f1 (fun b k q => by unfold Pch at q; omega)).R (by omega) (by omega)).R (by omega) (by omega)).F f2 (fun b k q => by unfold PC PN at q; omega)
    refine q _ (o1.I (by omega) (by omega)) ?_ ?_
    · have g1 : Fr (fun b k => Pch L (nCh (ldo st)) b k ∨ PC 244 b k ∨ PN 325 b k) (sR (sR μ 325 4 (some L)) 244 8 (some L)) (sI μ2 L 7 (nI (nCh (ldo st)))) := by
        have k1 : Fr (fun b k => Pch L (nCh (ldo st)) b k ∨ PC 244 b k ∨ PN 325 b k) (sR (sR μ 325 4 (some L)) 244 8 (some L)) (sR (sR μ1 325 4 (some L)) 244 8 (some L)) := by
          obtain ⟨c1, c2, c3, c4, c5⟩ := f1
          refine ⟨c1, c2, c3, ?_, fun b k hh => c5 b k (fun q => hh (Or.inl q))⟩
          unfold sR
          simp only [c4]
        exact (k1.trans (f2.mono (fun b k q => Or.inr q))).put (Or.inl (Or.inr ⟨rfl, rfl⟩))
      have g2 : Fr (fun b k => b = L + 13 + nCh (ldo st) ∨ PC 244 b k ∨ PN 325 b k) (sR (sR μ 325 4 (some L)) 244 8 (some L)) (sI μ2 L 7 (nI (nCh (ldo st)))) := by
        refine ⟨g1.1, g1.2.1, g1.2.2.1, g1.2.2.2.1, fun b k hh => ?_⟩
        by_cases e : b = L ∧ k = 7
        · rw [e.1, e.2, iI_s]
          exact (hn.1.1.1.1.1.2.2.2.1.all.1.2.2.2.1).symm
        · exact g1.I (fun q => by
            rcases q with (q | q) | q
            · exact hh (Or.inl q)
            · exact e q
            · exact hh (Or.inr q))
      exact (hx.q2 (x := some L) (y := some L)).fz g2 (fun b k q => by unfold PC PN at q; omega)
    · have hba2 := h2.bd
      refine ⟨h2.1.1.1.1.1.2.2.1, fun t m ht hm => ?_, fun h g m hh hg hm => ?_, fun o m ho hm => ?_⟩
      · rw [iI_n (by omega), iI_n (by omega)]
        exact ⟨(h2.1.1.1.1.tab t m ht hm).2.2.1, h2.1.1.2 t m ht hm⟩
      · rw [iI_n (by omega), iI_n (by omega)]
        exact h2.1.1.1.2 h g m hh hg hm
      · rw [iI_n (by omega)]
        exact h2.2 o m ho hm
theorem d95' {c h t m : Nat} {K : Int32 → ax_M → Prop} (hc : isCourse μ c) (hcl : gR μ c 8 = some L) (hl : isLand μ L) (hg : gI μ (L + 5 + t) 0 = nI (tG a t)) (g4 : tG a t < 4) (h3 : h < 3) (ht : t < 8) (hm : m < 12) (hB : gI μ (c + 56 + (h * 4 + tG a t)) m = enc (buy a h (tG a t) m).1 ∧ gI μ (c + 69 + (h * 4 + tG a t)) m = nI (buy a h (tG a t) m).2) (hin : ∀ t', (buy a h (tG a t) m).1 = some t' → t' < 2 ^ 31) (q : K (nI (pcO a h t m)) μ) : ax_CI l G 95 [ax_r (some c), ax_i (nI h), ax_i (nI t), ax_i (nI m)] μ K := by
  unfold pcO at q
  refine ax_Ct.of (by decide) (Nat.le_of_ble_eq_true rfl) (sg95_0 l G _ c _ _ _ _ ?_)
  try simp (disch := omega) only [hc.all, hcl, hl.all, hg, wr_s, in_nI, clN, ti_z, ti_l, true_and, and_true, kI, zI, rI, kL, zL, rL, kR, zR, nnI, nnL, nnR, iL, iR, lI, lR, exi, exl, exv, eq_self, nI_add, nI_mul, nI_sub, nI_ltI, nI_leI, nI_eq, q0, q1, q2, q3, q4, q5, q6, q10, q100, br_Tr, br_Fa, iI_s, iI_n, bI_q0, bI_q1, or_true, true_or, not_true_eq_false, not_false_eq_true, nI_l, ge64, Nat.lt_irrefl, Nat.add_sub_cancel, Nat.not_lt_zero, lN_0, lN_1e4, lN_1e6, lN_1e3, lN_add, lN_mul, lN_ltI, lN_leI, lN_eqI, lN_i, lcE, lcLe, lcLt, lN_div]
  refine d6 ?_
  try simp (disch := omega) only [hc.all, hB, wr_s, in_nI, clN, ti_z, ti_l, true_and, and_true, kI, zI, rI, kL, zL, rL, kR, zR, nnI, nnL, nnR, iL, iR, lI, lR, exi, exl, exv, eq_self, nI_add, nI_mul, nI_sub, nI_ltI, nI_leI, nI_eq, q0, q1, q2, q3, q4, q5, q6, q10, q100, br_Tr, br_Fa, iI_s, iI_n, bI_q0, bI_q1, or_true, true_or, not_true_eq_false, not_false_eq_true, nI_l, ge64, Nat.lt_irrefl, Nat.add_sub_cancel, Nat.not_lt_zero, lN_0, lN_1e4, lN_1e6, lN_1e3, lN_add, lN_mul, lN_ltI, lN_leI, lN_eqI, lN_i, lcE, lcLe, lcLt, lN_div]
  rw [enc_eq hin (by omega)]
  refine ax_brc (fun h1 => ?_) (fun h1 => ?_)
  · rw [if_pos h1] at q; exact q
  · rw [if_neg h1] at q; exact q
theorem d126 {t m b w o : Nat} {K : Int32 → ax_M → Prop} (hx : XW μ st L M) (ht : t < cn st 2) (h1 : 1 ≤ m) (hm : m < cn st 0) (hb1 : 1 ≤ b) (hb9 : b ≤ 99) (hc : cn st 3 < 20) (ho : o < cn st 6) (hr : TR μ L (adc (ldo st) t m (cw w) b)) (q : K (bI (hid (ldo st) t m b o w)) μ) : ax_CI l G 126 [ax_r (some 64), ax_i (nI t), ax_i (nI m), ax_i (nI o)] μ K := by
  have hb := hx.bd
  obtain ⟨hn, he⟩ := hx.tn ht
  have hba := hn.bd
  have ha := hn.1.1.1.1.1.1
  have hcw : cw w ≤ 6 := by unfold cw; split <;> (try split) <;> omega
  have ha' := adc_ok (t := t) (m := m) (h := cw w) (b := b) ha (by omega) h1 (by omega) hcw (by omega) (by omega)
  have hg := ha.tg (t := t) (by omega)
  unfold hid at q
  refine ax_Ct.of (by decide) (Nat.le_of_ble_eq_true rfl) (sg126_0 l G _ 64 _ _ _ _ ?_)
  refine up_to (P := fun h => (∀ j, j < h → decide (pcO (ldo st) j t m ≤ pcO (adc (ldo st) t m (cw w) b) j t m) = true) → (ax_Rw l G ax_h126 (ax_E G ax_h126 (fun x μ' => ∃ v : Int32, x = some (ax_i v) ∧ K v μ')) 3 [(0, ax_r (some 64)), (1, ax_i (nI t)), (2, ax_i (nI m)), (3, ax_i (nI o)), (4, ax_i (nI h))] [] 0 0 μ)) (nHo (ldo st)) (fun hf => ?_) (fun h hh ih hf => ?_) 0 (Nat.zero_le _) (fun j hj => by omega)
  · refine sg126_3 l G _ 64 _ _ _ _ _ ?_
    have n1 := num_in (ldo st) o m
    have n2 := num_in (adc (ldo st) t m (cw w) b) o m
    have hT := hx.1.2.2.2.2.2.2.2.2
    have e1 : gI μ (325 + 2 + o) m = nI (num (adc (ldo st) t m (cw w) b) o m) := hr.2.2.2 o m (show o < nOf (ldo st) by omega) (show m < nMo (ldo st) by omega)
    have e2 : gI μ (237 + 2 + o) m = nI (num (ldo st) o m) := hn.2 o m (by omega) (by omega)
    rw [allN_t hf, Bool.true_and] at q
    try simp (disch := omega) only [hx.all, he, hT.all, hn.1.1.1.1.1.2.1.all, hn.1.1.1.1.1.2.2.1, hn.1.1.1.1.1.2.2.2.1.1.all, hn.1.1.1.1.1.2.2.2.1.all, hn.1.1.1.1.tab, hn.1.1.1.2, hn.1.1.2, hn.1.2.1.all, hn.1.2.2.1, hn.2, e1, e2, wr_s, in_nI, clN, ti_z, ti_l, true_and, and_true, kI, zI, rI, kL, zL, rL, kR, zR, nnI, nnL, nnR, iL, iR, lI, lR, exi, exl, exv, eq_self, nI_add, nI_mul, nI_sub, nI_ltI, nI_leI, nI_eq, q0, q1, q2, q3, q4, q5, q6, q10, q100, br_Tr, br_Fa, iI_s, iI_n, bI_q0, bI_q1, or_true, true_or, not_true_eq_false, not_false_eq_true, nI_l, ge64, Nat.lt_irrefl, Nat.add_sub_cancel, Nat.not_lt_zero, lN_0, lN_1e4, lN_1e6, lN_1e3, lN_add, lN_mul, lN_ltI, lN_leI, lN_eqI, lN_i, lcE, lcLe, lcLt, lN_div]
    refine ax_brc (fun h => ?_) (fun h => ?_)
    · rw [decide_eq_true h] at q; exact q
    · rw [decide_eq_false h] at q; exact q
  · refine sg126_3 l G _ 64 _ _ _ _ _ ?_
    try simp (disch := omega) only [hx.all, he, hh, wr_s, in_nI, clN, ti_z, ti_l, true_and, and_true, kI, zI, rI, kL, zL, rL, kR, zR, nnI, nnL, nnR, iL, iR, lI, lR, exi, exl, exv, eq_self, nI_add, nI_mul, nI_sub, nI_ltI, nI_leI, nI_eq, q0, q1, q2, q3, q4, q5, q6, q10, q100, br_Tr, br_Fa, iI_s, iI_n, bI_q0, bI_q1, or_true, true_or, not_true_eq_false, not_false_eq_true, nI_l, ge64, Nat.lt_irrefl, Nat.add_sub_cancel, Nat.not_lt_zero, lN_0, lN_1e4, lN_1e6, lN_1e3, lN_add, lN_mul, lN_ltI, lN_leI, lN_eqI, lN_i, lcE, lcLe, lcLt, lN_div]
    have b1 := buy_in ha' (h := h) (g := tG (ldo st) t) (show h < nHo (ldo st) from hh) (by omega) m
    have b2 := buy_in ha (h := h) (g := tG (ldo st) t) hh (by omega) m
    refine d95' (a := adc (ldo st) t m (cw w) b) hx.1.2.2.2.2.2.2.2.1 hr.1 hx.1.2.2.2.1 (hn.1.1.1.1.1.2.2.2.1.all.2.1 t (by omega)).1 (show tG (ldo st) t < 4 by omega) (by omega) (by omega) (by omega) (hr.2.2.1 h (tG (ldo st) t) m (show h < nHo (ldo st) from hh) (show tG (ldo st) t < nGr (ldo st) from hg) (show m < nMo (ldo st) by omega)) (fun t' e => by have : t' < nTh (ldo st) := (b1.1 t' e).1; omega) ?_
    try simp (disch := omega) only [hx.all, wr_s, in_nI, clN, ti_z, ti_l, true_and, and_true, kI, zI, rI, kL, zL, rL, kR, zR, nnI, nnL, nnR, iL, iR, lI, lR, exi, exl, exv, eq_self, nI_add, nI_mul, nI_sub, nI_ltI, nI_leI, nI_eq, q0, q1, q2, q3, q4, q5, q6, q10, q100, br_Tr, br_Fa, iI_s, iI_n, bI_q0, bI_q1, or_true, true_or, not_true_eq_false, not_false_eq_true, nI_l, ge64, Nat.lt_irrefl, Nat.add_sub_cancel, Nat.not_lt_zero, lN_0, lN_1e4, lN_1e6, lN_1e3, lN_add, lN_mul, lN_ltI, lN_leI, lN_eqI, lN_i, lcE, lcLe, lcLt, lN_div]
    refine d95 hn.1.1.1 hh (by omega) (by omega) ?_
    have p1 : pcO (ldo st) h t m ≤ 99 := by
      unfold pcO
      split
      · exact b2.2.1
      · exact Nat.zero_le _
    have p2 : pcO (adc (ldo st) t m (cw w) b) h t m ≤ 99 := by
      unfold pcO
      split
      · exact b1.2.1
      · exact Nat.zero_le _
    try simp (disch := omega) only [wr_s, in_nI, clN, ti_z, ti_l, true_and, and_true, kI, zI, rI, kL, zL, rL, kR, zR, nnI, nnL, nnR, iL, iR, lI, lR, exi, exl, exv, eq_self, nI_add, nI_mul, nI_sub, nI_ltI, nI_leI, nI_eq, q0, q1, q2, q3, q4, q5, q6, q10, q100, br_Tr, br_Fa, iI_s, iI_n, bI_q0, bI_q1, or_true, true_or, not_true_eq_false, not_false_eq_true, nI_l, ge64, Nat.lt_irrefl, Nat.add_sub_cancel, Nat.not_lt_zero, lN_0, lN_1e4, lN_1e6, lN_1e3, lN_add, lN_mul, lN_ltI, lN_leI, lN_eqI, lN_i, lcE, lcLe, lcLt, lN_div]
    refine ax_brc (fun hl => ?_) (fun hl => ih (lt_s hf (by simp; omega)))
    rw [allN_f hh (by simp; omega), Bool.false_and] at q
    exact q
def wnt (st : St) (x y z : Int32) (r : Bool) : Nat := cond (((inN x (cn st 2) && inL y (cn st 0)) && Tr (ldo st) (cl x) (cl y)) && r) (cond (inK z 99) (if cn st 3 < 20 then 0 else 3) 2) 1
theorem d88 {x y z : Int32} {r : Bool} {K : Int32 → ax_M → Prop} (hx : XW μ st L M) (q : K (nI (wnt st x y z r)) μ) : ax_CI l G 88 [ax_r (some 64), ax_i x, ax_i y, ax_i z, ax_i (bI r)] μ K := by
  have hb := hx.bd
  unfold wnt at q
  have fin : ∀ b : Bool, b = ((inN x (cn st 2) && inL y (cn st 0)) && Tr (ldo st) (cl x) (cl y)) → (ax_Rw l G ax_h88 (ax_E G ax_h88 (fun x μ' => ∃ v : Int32, x = some (ax_i v) ∧ K v μ')) 39 [(0, ax_r (some 64)), (3, ax_i z), (4, ax_i (bI r))] [ax_i (bI b)] 0 0 μ) := by
    intro b hbb
    rw [← hbb] at q
    refine sg88_39 l G _ 64 _ _ _ _ ?_
    try simp (disch := omega) only [hx.all, q20, q99, wr_s, in_nI, clN, ti_z, ti_l, true_and, and_true, kI, zI, rI, kL, zL, rL, kR, zR, nnI, nnL, nnR, iL, iR, lI, lR, exi, exl, exv, eq_self, nI_add, nI_mul, nI_sub, nI_ltI, nI_leI, nI_eq, q0, q1, q2, q3, q4, q5, q6, q10, q100, br_Tr, br_Fa, iI_s, iI_n, bI_q0, bI_q1, or_true, true_or, not_true_eq_false, not_false_eq_true, nI_l, ge64, Nat.lt_irrefl, Nat.add_sub_cancel, Nat.not_lt_zero, lN_0, lN_1e4, lN_1e6, lN_1e3, lN_add, lN_mul, lN_ltI, lN_leI, lN_eqI, lN_i, lcE, lcLe, lcLt, lN_div]
    cases b
    · exact ax_brt rfl q
    · refine ax_brf (by decide) ?_
      cases r
      · exact ax_brt rfl q
      · refine ax_brf (by decide) ?_
        refine inK_br (fun hk => ?_) (fun hk => ?_)
        · rw [hk] at q
          refine ax_brc (fun h => ?_) (fun h => ?_)
          · rw [if_pos h] at q; exact q
          · rw [if_neg h] at q; exact q
        · rw [hk] at q; exact q
  refine ax_Ct.of (by decide) (Nat.le_of_ble_eq_true rfl) (sg88_0 l G _ 64 _ _ _ _ _ ?_)
  try simp (disch := omega) only [hx.all, wr_s, in_nI, clN, ti_z, ti_l, true_and, and_true, kI, zI, rI, kL, zL, rL, kR, zR, nnI, nnL, nnR, iL, iR, lI, lR, exi, exl, exv, eq_self, nI_add, nI_mul, nI_sub, nI_ltI, nI_leI, nI_eq, q0, q1, q2, q3, q4, q5, q6, q10, q100, br_Tr, br_Fa, iI_s, iI_n, bI_q0, bI_q1, or_true, true_or, not_true_eq_false, not_false_eq_true, nI_l, ge64, Nat.lt_irrefl, Nat.add_sub_cancel, Nat.not_lt_zero, lN_0, lN_1e4, lN_1e6, lN_1e3, lN_add, lN_mul, lN_ltI, lN_leI, lN_eqI, lN_i, lcE, lcLe, lcLt, lN_div]
  refine d25 hx.all.2.1.2.2.2.2.1 hx.all.2.2.2.2.2.1 ?_
  try simp (disch := omega) only [hx.all, wr_s, in_nI, clN, ti_z, ti_l, true_and, and_true, kI, zI, rI, kL, zL, rL, kR, zR, nnI, nnL, nnR, iL, iR, lI, lR, exi, exl, exv, eq_self, nI_add, nI_mul, nI_sub, nI_ltI, nI_leI, nI_eq, q0, q1, q2, q3, q4, q5, q6, q10, q100, br_Tr, br_Fa, iI_s, iI_n, bI_q0, bI_q1, or_true, true_or, not_true_eq_false, not_false_eq_true, nI_l, ge64, Nat.lt_irrefl, Nat.add_sub_cancel, Nat.not_lt_zero, lN_0, lN_1e4, lN_1e6, lN_1e3, lN_add, lN_mul, lN_ltI, lN_leI, lN_eqI, lN_i, lcE, lcLe, lcLt, lN_div]
  cases h1 : inN x (cn st 2)
  · exact ax_brt rfl (fin false (by rw [h1]; rfl))
  · refine ax_brf (by decide) ?_
    refine d22 hx.all.2.1.2.2.2.2.1 hx.all.2.2.2.1 ?_
    try simp (disch := omega) only [hx.all, wr_s, in_nI, clN, ti_z, ti_l, true_and, and_true, kI, zI, rI, kL, zL, rL, kR, zR, nnI, nnL, nnR, iL, iR, lI, lR, exi, exl, exv, eq_self, nI_add, nI_mul, nI_sub, nI_ltI, nI_leI, nI_eq, q0, q1, q2, q3, q4, q5, q6, q10, q100, br_Tr, br_Fa, iI_s, iI_n, bI_q0, bI_q1, or_true, true_or, not_true_eq_false, not_false_eq_true, nI_l, ge64, Nat.lt_irrefl, Nat.add_sub_cancel, Nat.not_lt_zero, lN_0, lN_1e4, lN_1e6, lN_1e3, lN_add, lN_mul, lN_ltI, lN_leI, lN_eqI, lN_i, lcE, lcLe, lcLt, lN_div]
    cases h2 : inL y (cn st 0)
    · exact ax_brt rfl (fin false (by rw [h1, h2]; rfl))
    · refine ax_brf (by decide) ?_
      rw [h1, h2] at fin
      obtain ⟨t, ht, rfl⟩ := inN_t (by omega) h1
      obtain ⟨m, hm1, hm2, rfl⟩ := inL_t (by omega) h2
      obtain ⟨hn, he⟩ := hx.tn ht
      have hba := hn.bd
      rw [cl_nI (by omega), cl_nI (by omega)] at fin
      refine d14 hn.1.1.1.1 (by omega) (by omega) ?_
      try simp (disch := omega) only [wr_s, in_nI, clN, ti_z, ti_l, true_and, and_true, kI, zI, rI, kL, zL, rL, kR, zR, nnI, nnL, nnR, iL, iR, lI, lR, exi, exl, exv, eq_self, nI_add, nI_mul, nI_sub, nI_ltI, nI_leI, nI_eq, q0, q1, q2, q3, q4, q5, q6, q10, q100, br_Tr, br_Fa, iI_s, iI_n, bI_q0, bI_q1, or_true, true_or, not_true_eq_false, not_false_eq_true, nI_l, ge64, Nat.lt_irrefl, Nat.add_sub_cancel, Nat.not_lt_zero, lN_0, lN_1e4, lN_1e6, lN_1e3, lN_add, lN_mul, lN_ltI, lN_leI, lN_eqI, lN_i, lcE, lcLe, lcLt, lN_div]
      cases h3 : Tr (ldo st) t m
      · exact ax_brt rfl (fin false (by rw [h3]; rfl))
      · exact ax_brf (by decide) (fin true (by rw [h3]; rfl))
theorem wnt_0 {x y z : Int32} {r : Bool} (h : wnt st x y z r = 0) : inN x (cn st 2) = true ∧ inL y (cn st 0) = true ∧ Tr (ldo st) (cl x) (cl y) = true ∧ r = true ∧ inK z 99 = true ∧ cn st 3 < 20 := by
  unfold wnt at h
  cases h1 : (((inN x (cn st 2) && inL y (cn st 0)) && Tr (ldo st) (cl x) (cl y)) && r)
  · rw [h1] at h; cases h
  · rw [h1] at h
    cases h2 : inK z 99
    · rw [h2] at h; cases h
    · rw [h2] at h
      simp only [cond_true] at h
      split at h
      · rename_i h3
        simp only [Bool.and_eq_true] at h1
        exact ⟨h1.1.1.1, h1.1.1.2, h1.1.2, h1.2, rfl, h3⟩
      · cases h
theorem wnt_in (x y z : Int32) (r : Bool) : wnt st x y z r ≤ 3 := by
  unfold wnt
  cases (((inN x (cn st 2) && inL y (cn st 0)) && Tr (ldo st) (cl x) (cl y)) && r)
  · simp
  · cases inK z 99
    · simp
    · simp only [cond_true]; split <;> omega
theorem d87 {t m b w : Nat} {K : Int32 → ax_M → Prop} (hx : XW μ st L M) (ht : t < cn st 2) (h1 : 1 ≤ m) (hm : m < cn st 0) (hb1 : 1 ≤ b) (hb9 : b ≤ 99) (hc : cn st 3 < 20) (hw : w < 3) (hr : TR μ L (adc (ldo st) t m (cw w) b)) (q : K (nI (gn (ldo st) t m b w)) μ) : ax_CI l G 87 [ax_r (some 64), ax_i (nI t), ax_i (nI m), ax_i (nI b), ax_i (nI w)] μ K := by
  have hb := hx.bd
  obtain ⟨hn, he⟩ := hx.tn ht
  have hba := hn.bd
  have ha := hn.1.1.1.1.1.1
  have hcw : cw w ≤ 6 := by unfold cw; split <;> (try split) <;> omega
  have ha' := adc_ok (t := t) (m := m) (h := cw w) (b := b) ha (by omega) h1 (by omega) hcw (by omega) (by omega)
  have hgi := gn_in (w := w) ha (t := t) (by omega) h1 (by omega) hb1 hb9 (by omega)
  obtain ⟨e1, e2⟩ := hr.2.1 t m (show t < nTh (ldo st) by omega) (show m < nMo (ldo st) by omega)
  have p1 := allP_in ha' (t := t) (m := m) (show t < nTh (ldo st) by omega)
  have p2 := (stt_in ha' (t := t) (show t < nTh (ldo st) by omega) m).2.2
  obtain ⟨s1, s2, s3⟩ := stt_in ha (t := t) (by omega) m
  have hC := hx.1.2.2.2.2.2.2.2.1
  unfold gn at q
  refine ax_Ct.of (by decide) (Nat.le_of_ble_eq_true rfl) (sg87_0 l G _ 64 _ _ _ _ _ ?_)
  try simp (disch := omega) only [hx.all, hC.all, hn.1.1.1.1.1.2.1.all, hn.1.1.1.1.1.2.2.1, hn.1.1.1.1.1.2.2.2.1.1.all, hn.1.1.1.1.1.2.2.2.1.all, hn.1.1.1.1.tab, hn.1.1.1.2, hn.1.1.2, hn.1.2.1.all, hn.1.2.2.1, hn.2, e1, e2, wr_s, in_nI, clN, ti_z, ti_l, true_and, and_true, kI, zI, rI, kL, zL, rL, kR, zR, nnI, nnL, nnR, iL, iR, lI, lR, exi, exl, exv, eq_self, nI_add, nI_mul, nI_sub, nI_ltI, nI_leI, nI_eq, q0, q1, q2, q3, q4, q5, q6, q10, q100, br_Tr, br_Fa, iI_s, iI_n, bI_q0, bI_q1, or_true, true_or, not_true_eq_false, not_false_eq_true, nI_l, ge64, Nat.lt_irrefl, Nat.add_sub_cancel, Nat.not_lt_zero, lN_0, lN_1e4, lN_1e6, lN_1e3, lN_add, lN_mul, lN_ltI, lN_leI, lN_eqI, lN_i, lcE, lcLe, lcLt, lN_div]
  refine ax_brc (fun h0 => ?_) (fun h0 => ?_)
  · rw [if_pos h0] at q; exact q
  · rw [if_neg h0] at q
    refine ax_brc (fun h1 => ?_) (fun h1 => ?_)
    · rw [if_pos h1] at q
      refine d1n (by omega) (by omega) (by omega) ?_
      try simp (disch := omega) only [wr_s, in_nI, clN, ti_z, ti_l, true_and, and_true, kI, zI, rI, kL, zL, rL, kR, zR, nnI, nnL, nnR, iL, iR, lI, lR, exi, exl, exv, eq_self, nI_add, nI_mul, nI_sub, nI_ltI, nI_leI, nI_eq, q0, q1, q2, q3, q4, q5, q6, q10, q100, br_Tr, br_Fa, iI_s, iI_n, bI_q0, bI_q1, or_true, true_or, not_true_eq_false, not_false_eq_true, nI_l, ge64, Nat.lt_irrefl, Nat.add_sub_cancel, Nat.not_lt_zero, lN_0, lN_1e4, lN_1e6, lN_1e3, lN_add, lN_mul, lN_ltI, lN_leI, lN_eqI, lN_i, lcE, lcLe, lcLt, lN_div]
      exact q
    · rw [if_neg h1] at q
      refine d1n (by omega) (by omega) (by omega) ?_
      try simp (disch := omega) only [wr_s, in_nI, clN, ti_z, ti_l, true_and, and_true, kI, zI, rI, kL, zL, rL, kR, zR, nnI, nnL, nnR, iL, iR, lI, lR, exi, exl, exv, eq_self, nI_add, nI_mul, nI_sub, nI_ltI, nI_leI, nI_eq, q0, q1, q2, q3, q4, q5, q6, q10, q100, br_Tr, br_Fa, iI_s, iI_n, bI_q0, bI_q1, or_true, true_or, not_true_eq_false, not_false_eq_true, nI_l, ge64, Nat.lt_irrefl, Nat.add_sub_cancel, Nat.not_lt_zero, lN_0, lN_1e4, lN_1e6, lN_1e3, lN_add, lN_mul, lN_ltI, lN_leI, lN_eqI, lN_i, lcE, lcLe, lcLt, lN_div]
      exact q
def aGain (st : St) (x y z w : Int32) : Int32 × St := if wnt st x y z (inN w 3) = 0 then (nI (gn (ldo st) (cl x) (cl y) (cl z) (cl w)), sT st 0) else (-nI 1, sT st (wnt st x y z (inN w 3)))
theorem cn_sT (st : St) (t k : Nat) : cn (sT st t) k = cn st k := rfl
theorem ldo_sT (st : St) (t : Nat) : ldo (sT st t) = ldo st := rfl
theorem p227 {x y z w : Int32} {K : Int32 → ax_M → Prop} (hx : X μ st) (q : ∀ μ', Out 64 332 μ μ' → X μ' (aGain st x y z w).2 → K (aGain st x y z w).1 μ') : ax_CI l G 227 [ax_r (some 64), ax_i x, ax_i y, ax_i z, ax_i w] μ K := by
  obtain ⟨L, M, hx⟩ := hx
  have hb := hx.bd
  unfold aGain at q
  have fin : ∀ b : Bool, b = inN w 3 → ax_CI l G 88 [ax_r (some 64), ax_i x, ax_i y, ax_i z, ax_i (bI b)] μ (fun y9 m8 => ax_br (y9 = nI 0) (mK m8 64 = 10 ∧ mK m8 64 = 10 ∧ ax_CV l G 210 [ax_r (some 64), ax_i x, ax_i y, ax_i z, ax_i w] (sI m8 64 9 (nI 0)) fun m10 => mK m10 64 = 10 ∧ ax_CI l G 87 [ax_r (some 64), ax_i x, ax_i y, ax_i z, ax_i w] m10 fun y12 m11 => K y12 m11) (mK m8 64 = 10 ∧ ax_CI l G 5 [ax_r (some 64), ax_i y9] m8 fun y14 m13 => K y14 m13)) := by
    intro b hbb
    rw [← hbb] at q
    have hwi := wnt_in (st := st) x y z b
    refine d88 hx ?_
    try simp (disch := omega) only [hx.all, wr_s, in_nI, clN, ti_z, ti_l, true_and, and_true, kI, zI, rI, kL, zL, rL, kR, zR, nnI, nnL, nnR, iL, iR, lI, lR, exi, exl, exv, eq_self, nI_add, nI_mul, nI_sub, nI_ltI, nI_leI, nI_eq, q0, q1, q2, q3, q4, q5, q6, q10, q100, br_Tr, br_Fa, iI_s, iI_n, bI_q0, bI_q1, or_true, true_or, not_true_eq_false, not_false_eq_true, nI_l, ge64, Nat.lt_irrefl, Nat.add_sub_cancel, Nat.not_lt_zero, lN_0, lN_1e4, lN_1e6, lN_1e3, lN_add, lN_mul, lN_ltI, lN_leI, lN_eqI, lN_i, lcE, lcLe, lcLt, lN_div]
    refine ax_brc (fun h0 => ?_) (fun h0 => ?_)
    · rw [if_pos h0] at q
      obtain ⟨g1, g2, g3, g4, g5, g6⟩ := wnt_0 h0
      rw [hbb] at g4
      obtain ⟨t, ht, rfl⟩ := inN_t (by omega) g1
      obtain ⟨m, hm1, hm2, rfl⟩ := inL_t (by omega) g2
      rw [inK_L (by omega)] at g5
      obtain ⟨b', hb1, hb2, rfl⟩ := inL_t (by omega) g5
      obtain ⟨w, hw, rfl⟩ := inN_t (by omega) g4
      rw [cl_nI (by omega), cl_nI (by omega), cl_nI (by omega), cl_nI (by omega)] at q
      have hx' := hx.tr (t := 0) (by decide) (by decide)
      refine d210 hx' ht hm1 hm2 hb1 (by omega) g6 hw (fun μ1 o1 hx1 hr => ?_)
      try simp (disch := omega) only [hx1.all, wr_s, in_nI, clN, ti_z, ti_l, true_and, and_true, kI, zI, rI, kL, zL, rL, kR, zR, nnI, nnL, nnR, iL, iR, lI, lR, exi, exl, exv, eq_self, nI_add, nI_mul, nI_sub, nI_ltI, nI_leI, nI_eq, q0, q1, q2, q3, q4, q5, q6, q10, q100, br_Tr, br_Fa, iI_s, iI_n, bI_q0, bI_q1, or_true, true_or, not_true_eq_false, not_false_eq_true, nI_l, ge64, Nat.lt_irrefl, Nat.add_sub_cancel, Nat.not_lt_zero, lN_0, lN_1e4, lN_1e6, lN_1e3, lN_add, lN_mul, lN_ltI, lN_leI, lN_eqI, lN_i, lcE, lcLe, lcLt, lN_div]
      refine d87 hx1 ht hm1 hm2 hb1 (by omega) g6 hw hr ?_
      exact q _ (((Out.refl _ _ _).I (by omega) (by omega)).trans o1) ⟨L, M, hx1⟩
    · rw [if_neg h0] at q
      refine d5 hx.all.1.1 ?_
      exact (q _ ((Out.refl _ _ _).I (by omega) (by omega)) ⟨L, M, hx.tr (by omega) (by omega)⟩)
  refine ax_Ct.of (by decide) (Nat.le_of_ble_eq_true rfl) (sg227_0 l G _ 64 _ _ _ _ _ ?_)
  try simp (disch := omega) only [hx.all, wr_s, in_nI, clN, ti_z, ti_l, true_and, and_true, kI, zI, rI, kL, zL, rL, kR, zR, nnI, nnL, nnR, iL, iR, lI, lR, exi, exl, exv, eq_self, nI_add, nI_mul, nI_sub, nI_ltI, nI_leI, nI_eq, q0, q1, q2, q3, q4, q5, q6, q10, q100, br_Tr, br_Fa, iI_s, iI_n, bI_q0, bI_q1, or_true, true_or, not_true_eq_false, not_false_eq_true, nI_l, ge64, Nat.lt_irrefl, Nat.add_sub_cancel, Nat.not_lt_zero, lN_0, lN_1e4, lN_1e6, lN_1e3, lN_add, lN_mul, lN_ltI, lN_leI, lN_eqI, lN_i, lcE, lcLe, lcLt, lN_div]
  rw [← inN3 (n := 2) (by omega)]
  exact inN_br (fun h => fin true h.symm) (fun h => fin false h.symm)
def aHides (st : St) (x y z w : Int32) : Int32 × St := if wnt st x y z (inN w (cn st 6)) = 0 then (e4 (hdK (ldo st) (cl x) (cl y) (cl z) (cl w) 3), sT st 0) else (-nI 1, sT st (wnt st x y z (inN w (cn st 6))))
def e7 (o : Option (Nat × Nat)) : Int32 := match o with
  | none => -1
  | some b => nI b.2
theorem p228 {x y z w : Int32} {K : Int32 → ax_M → Prop} (hx : X μ st) (q : ∀ μ', Out 64 332 μ μ' → X μ' (aHides st x y z w).2 → K (aHides st x y z w).1 μ') : ax_CI l G 228 [ax_r (some 64), ax_i x, ax_i y, ax_i z, ax_i w] μ K := by
  obtain ⟨L, M, hx⟩ := hx
  have hb := hx.bd
  unfold aHides at q
  have hwi := wnt_in (st := st) x y z (inN w (cn st 6))
  refine ax_Ct.of (by decide) (Nat.le_of_ble_eq_true rfl) (sg228_0 l G _ 64 _ _ _ _ _ ?_)
  try simp (disch := omega) only [hx.all, wr_s, in_nI, clN, ti_z, ti_l, true_and, and_true, kI, zI, rI, kL, zL, rL, kR, zR, nnI, nnL, nnR, iL, iR, lI, lR, exi, exl, exv, eq_self, nI_add, nI_mul, nI_sub, nI_ltI, nI_leI, nI_eq, q0, q1, q2, q3, q4, q5, q6, q10, q100, br_Tr, br_Fa, iI_s, iI_n, bI_q0, bI_q1, or_true, true_or, not_true_eq_false, not_false_eq_true, nI_l, ge64, Nat.lt_irrefl, Nat.add_sub_cancel, Nat.not_lt_zero, lN_0, lN_1e4, lN_1e6, lN_1e3, lN_add, lN_mul, lN_ltI, lN_leI, lN_eqI, lN_i, lcE, lcLe, lcLt, lN_div]
  refine d24 hx.all.2.1.2.2.2.2.1 hx.all.2.2.2.2.2.2.2.2.2 ?_
  try simp (disch := omega) only [hx.all, wr_s, in_nI, clN, ti_z, ti_l, true_and, and_true, kI, zI, rI, kL, zL, rL, kR, zR, nnI, nnL, nnR, iL, iR, lI, lR, exi, exl, exv, eq_self, nI_add, nI_mul, nI_sub, nI_ltI, nI_leI, nI_eq, q0, q1, q2, q3, q4, q5, q6, q10, q100, br_Tr, br_Fa, iI_s, iI_n, bI_q0, bI_q1, or_true, true_or, not_true_eq_false, not_false_eq_true, nI_l, ge64, Nat.lt_irrefl, Nat.add_sub_cancel, Nat.not_lt_zero, lN_0, lN_1e4, lN_1e6, lN_1e3, lN_add, lN_mul, lN_ltI, lN_leI, lN_eqI, lN_i, lcE, lcLe, lcLt, lN_div]
  refine d88 hx ?_
  try simp (disch := omega) only [hx.all, wr_s, in_nI, clN, ti_z, ti_l, true_and, and_true, kI, zI, rI, kL, zL, rL, kR, zR, nnI, nnL, nnR, iL, iR, lI, lR, exi, exl, exv, eq_self, nI_add, nI_mul, nI_sub, nI_ltI, nI_leI, nI_eq, q0, q1, q2, q3, q4, q5, q6, q10, q100, br_Tr, br_Fa, iI_s, iI_n, bI_q0, bI_q1, or_true, true_or, not_true_eq_false, not_false_eq_true, nI_l, ge64, Nat.lt_irrefl, Nat.add_sub_cancel, Nat.not_lt_zero, lN_0, lN_1e4, lN_1e6, lN_1e3, lN_add, lN_mul, lN_ltI, lN_leI, lN_eqI, lN_i, lcE, lcLe, lcLt, lN_div]
  refine ax_brc (fun h0 => ?_) (fun h0 => ?_)
  · rw [if_pos h0] at q
    obtain ⟨g1, g2, g3, g4, g5, g6⟩ := wnt_0 h0
    obtain ⟨t, ht, rfl⟩ := inN_t (by omega) g1
    obtain ⟨m, hm1, hm2, rfl⟩ := inL_t (by omega) g2
    rw [inK_L (by omega)] at g5
    obtain ⟨b, hb1, hb2, rfl⟩ := inL_t (by omega) g5
    obtain ⟨o, ho, rfl⟩ := inN_t (by omega) g4
    rw [cl_nI (by omega), cl_nI (by omega), cl_nI (by omega), cl_nI (by omega)] at q
    have hx' := hx.tr (t := 0) (by decide) (by decide)
    obtain ⟨hn, he⟩ := hx.tn ht
    have ha := hn.1.1.1.1.1.1
    refine up_to (P := fun w => ∀ μw, Out 64 332 μ μw → XW μw (sT st 0) L M → (ax_Rw l G ax_h228 (ax_E G ax_h228 (fun x μ' => ∃ v : Int32, x = some (ax_i v) ∧ K v μ')) 45 [(0, ax_r (some 64)), (1, ax_i (nI t)), (2, ax_i (nI m)), (3, ax_i (nI b)), (4, ax_i (nI o)), (6, ax_i (e4 (hdK (ldo st) t m b o w))), (7, ax_i (e7 (hdK (ldo st) t m b o w))), (8, ax_i (nI w))] [] 0 0 μw)) 3 (fun μw ow hw => ?_) (fun w hw3 ih μw ow hw => ?_) 0 (Nat.zero_le _) _ ((Out.refl _ _ _).I (by omega) (by omega)) hx'
    · refine sg228_45 l G _ 64 _ _ _ _ _ _ _ _ ?_
      try simp (disch := omega) only [wr_s, in_nI, clN, ti_z, ti_l, true_and, and_true, kI, zI, rI, kL, zL, rL, kR, zR, nnI, nnL, nnR, iL, iR, lI, lR, exi, exl, exv, eq_self, nI_add, nI_mul, nI_sub, nI_ltI, nI_leI, nI_eq, q0, q1, q2, q3, q4, q5, q6, q10, q100, br_Tr, br_Fa, iI_s, iI_n, bI_q0, bI_q1, or_true, true_or, not_true_eq_false, not_false_eq_true, nI_l, ge64, Nat.lt_irrefl, Nat.add_sub_cancel, Nat.not_lt_zero, lN_0, lN_1e4, lN_1e6, lN_1e3, lN_add, lN_mul, lN_ltI, lN_leI, lN_eqI, lN_i, lcE, lcLe, lcLt, lN_div]
      exact q _ ow ⟨L, M, hw⟩
    · refine sg228_45 l G _ 64 _ _ _ _ _ _ _ _ ?_
      try simp (disch := omega) only [hw.all, hw3, wr_s, in_nI, clN, ti_z, ti_l, true_and, and_true, kI, zI, rI, kL, zL, rL, kR, zR, nnI, nnL, nnR, iL, iR, lI, lR, exi, exl, exv, eq_self, nI_add, nI_mul, nI_sub, nI_ltI, nI_leI, nI_eq, q0, q1, q2, q3, q4, q5, q6, q10, q100, br_Tr, br_Fa, iI_s, iI_n, bI_q0, bI_q1, or_true, true_or, not_true_eq_false, not_false_eq_true, nI_l, ge64, Nat.lt_irrefl, Nat.add_sub_cancel, Nat.not_lt_zero, lN_0, lN_1e4, lN_1e6, lN_1e3, lN_add, lN_mul, lN_ltI, lN_leI, lN_eqI, lN_i, lcE, lcLe, lcLt, lN_div]
      have hgi := (gn_in (w := w) ha (t := t) (by omega) hm1 (by omega) hb1 (by omega) (by omega)).2.2
      refine d210 hw ht hm1 hm2 hb1 (by omega) g6 hw3 (fun μ1 o1 hx1 hr => ?_)
      try simp (disch := omega) only [hx1.all, wr_s, in_nI, clN, ti_z, ti_l, true_and, and_true, kI, zI, rI, kL, zL, rL, kR, zR, nnI, nnL, nnR, iL, iR, lI, lR, exi, exl, exv, eq_self, nI_add, nI_mul, nI_sub, nI_ltI, nI_leI, nI_eq, q0, q1, q2, q3, q4, q5, q6, q10, q100, br_Tr, br_Fa, iI_s, iI_n, bI_q0, bI_q1, or_true, true_or, not_true_eq_false, not_false_eq_true, nI_l, ge64, Nat.lt_irrefl, Nat.add_sub_cancel, Nat.not_lt_zero, lN_0, lN_1e4, lN_1e6, lN_1e3, lN_add, lN_mul, lN_ltI, lN_leI, lN_eqI, lN_i, lcE, lcLe, lcLt, lN_div]
      refine d87 hx1 ht hm1 hm2 hb1 (by omega) g6 hw3 hr ?_
      try simp (disch := omega) only [hx1.all, wr_s, in_nI, clN, ti_z, ti_l, true_and, and_true, kI, zI, rI, kL, zL, rL, kR, zR, nnI, nnL, nnR, iL, iR, lI, lR, exi, exl, exv, eq_self, nI_add, nI_mul, nI_sub, nI_ltI, nI_leI, nI_eq, q0, q1, q2, q3, q4, q5, q6, q10, q100, br_Tr, br_Fa, iI_s, iI_n, bI_q0, bI_q1, or_true, true_or, not_true_eq_false, not_false_eq_true, nI_l, ge64, Nat.lt_irrefl, Nat.add_sub_cancel, Nat.not_lt_zero, lN_0, lN_1e4, lN_1e6, lN_1e3, lN_add, lN_mul, lN_ltI, lN_leI, lN_eqI, lN_i, lcE, lcLe, lcLt, lN_div]
      rw [show hdK (ldo st) t m b o (w + 1) = (if (hid (ldo st) t m b o w && hdB (hdK (ldo st) t m b o w) (gn (ldo st) t m b w)) = true then some (w, gn (ldo st) t m b w) else hdK (ldo st) t m b o w) from rfl] at ih
      have no : (hid (ldo st) t m b o w && hdB (hdK (ldo st) t m b o w) (gn (ldo st) t m b w)) = false → (ax_Rw l G ax_h228 (ax_E G ax_h228 (fun x μ' => ∃ v : Int32, x = some (ax_i v) ∧ K v μ')) 45 [(0, ax_r (some 64)), (1, ax_i (nI t)), (2, ax_i (nI m)), (3, ax_i (nI b)), (4, ax_i (nI o)), (6, ax_i (e4 (hdK (ldo st) t m b o w))), (7, ax_i (e7 (hdK (ldo st) t m b o w))), (8, ax_i (nI (w + 1)))] [] 0 0 μ1) := by
        intro hf
        rw [hf, if_neg Bool.false_ne_true] at ih
        exact ih _ (ow.trans o1) hx1
      have go : hdB (hdK (ldo st) t m b o w) (gn (ldo st) t m b w) = true → ax_CI l G 126 [ax_r (some 64), ax_i (nI t), ax_i (nI m), ax_i (nI o)] μ1 (fun y5 m4 => ax_br (y5 = nI 0) (ax_Rw l G ax_h228 (ax_E G ax_h228 (fun x μ' => ∃ v : Int32, x = some (ax_i v) ∧ K v μ')) 45 [(0, ax_r (some 64)), (1, ax_i (nI t)), (2, ax_i (nI m)), (3, ax_i (nI b)), (4, ax_i (nI o)), (6, ax_i (e4 (hdK (ldo st) t m b o w))), (7, ax_i (e7 (hdK (ldo st) t m b o w))), (8, ax_i (nI (w + 1)))] [] 0 0 m4) (ax_Rw l G ax_h228 (ax_E G ax_h228 (fun x μ' => ∃ v : Int32, x = some (ax_i v) ∧ K v μ')) 45 [(0, ax_r (some 64)), (1, ax_i (nI t)), (2, ax_i (nI m)), (3, ax_i (nI b)), (4, ax_i (nI o)), (6, ax_i (nI w)), (7, ax_i (nI (gn (ldo st) t m b w))), (8, ax_i (nI (w + 1)))] [] 0 0 m4)) := by
        intro hB
        refine d126 (w := w) (b := b) hx1 ht hm1 hm2 hb1 (by omega) g6 ho hr ?_
        try simp (disch := omega) only [ldo_sT, wr_s, in_nI, clN, ti_z, ti_l, true_and, and_true, kI, zI, rI, kL, zL, rL, kR, zR, nnI, nnL, nnR, iL, iR, lI, lR, exi, exl, exv, eq_self, nI_add, nI_mul, nI_sub, nI_ltI, nI_leI, nI_eq, q0, q1, q2, q3, q4, q5, q6, q10, q100, br_Tr, br_Fa, iI_s, iI_n, bI_q0, bI_q1, or_true, true_or, not_true_eq_false, not_false_eq_true, nI_l, ge64, Nat.lt_irrefl, Nat.add_sub_cancel, Nat.not_lt_zero, lN_0, lN_1e4, lN_1e6, lN_1e3, lN_add, lN_mul, lN_ltI, lN_leI, lN_eqI, lN_i, lcE, lcLe, lcLt, lN_div]
        refine ax_brc (fun hh => ?_) (fun hh => ?_)
        · exact no (by rw [hh]; rfl)
        · rw [show hid (ldo st) t m b o w = true by simpa using hh, hB, if_pos (by rfl)] at ih
          exact ih _ (ow.trans o1) hx1
      cases hk : hdK (ldo st) t m b o w with
      | none =>
        rw [hk] at no go
        refine ax_brf ?_ (go rfl)
        show ¬ nI _ ≤ -1
        intro h
        have h1 : (-1 : Int32) < nI (gn (ldo st) t m b w) := by
          rw [Int32.lt_iff_toInt_lt, nI_toInt (by omega)]
          have : (-1 : Int32).toInt = -1 := by decide
          omega
        exact absurd h (Int32.not_le.mpr h1)
      | some p =>
        rw [hk] at no go
        have hi := hdK_in ha (t := t) (o := o) (by omega) hm1 (by omega) hb1 (by omega) (by omega) w p hk
        refine br_le (gn (ldo st) t m b w) p.2 rfl rfl (by omega) (by omega) (fun h => no ?_) (fun h => go ?_)
        · unfold hdB; simp; intro _; omega
        · unfold hdB; simp; omega
  · rw [if_neg h0] at q
    refine d5 hx.all.1.1 ?_
    exact (q _ ((Out.refl _ _ _).I (by omega) (by omega)) ⟨L, M, hx.tr (by omega) (by omega)⟩)
end E5
