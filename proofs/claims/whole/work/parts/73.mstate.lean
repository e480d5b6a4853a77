/-! the model's state -/
def ML (μ : ax_M) (st : St) : Prop := (lan st = none ∧ gR μ 332 3 = none) ∨ ∃ a N, lan st = some a ∧ N + 18 ≤ mN μ ∧ MB μ N a
def Mx (μ : ax_M) (st : St) : Prop := isMo μ ∧ (gI μ 332 1 = nI (tro st) ∧ gI μ 332 2 = aWhere st ∧ gI μ 332 6 = nI (ln st) ∧ gI μ 332 13 = nI (fau st)) ∧ (ln st ≤ 900 ∧ 341 ≤ mN μ) ∧ (∀ i, i < ln st → gI μ 333 i &&& 255 = nI (tp st i)) ∧ ML μ st
/-- what a call of the model leaves as it was -/
def OutM (μ μ' : ax_M) : Prop := mN μ ≤ mN μ' ∧ ∀ b, b < 332 ∨ b = 340 → μ'.2.1 b = μ.2.1 b ∧ ∀ k, gI μ' b k = gI μ b k ∧ gL μ' b k = gL μ b k ∧ gR μ' b k = gR μ b k
theorem OutM.refl (μ : ax_M) : OutM μ μ := ⟨Nat.le_refl _, fun _ _ => ⟨rfl, fun _ => ⟨rfl, rfl, rfl⟩⟩⟩
theorem OutM.trans {μ μ1 μ2 : ax_M} (h : OutM μ μ1) (k : OutM μ1 μ2) : OutM μ μ2 :=
  ⟨Nat.le_trans h.1 k.1, fun b hb => ⟨(k.2 b hb).1.trans (h.2 b hb).1, fun j => ⟨((k.2 b hb).2 j).1.trans ((h.2 b hb).2 j).1, ((k.2 b hb).2 j).2.1.trans ((h.2 b hb).2 j).2.1, ((k.2 b hb).2 j).2.2.trans ((h.2 b hb).2 j).2.2⟩⟩⟩
theorem OutM.I {μ μ1 : ax_M} (h : OutM μ μ1) {a k : Nat} {v : Int32} (ha : 332 ≤ a ∧ a ≠ 340) : OutM μ (sI μ1 a k v) :=
  ⟨h.1, fun b hb' => ⟨(h.2 b hb').1, fun j => ⟨by rw [iI_n (by omega)]; exact ((h.2 b hb').2 j).1, ((h.2 b hb').2 j).2⟩⟩⟩
theorem OutM.R {μ μ1 : ax_M} (h : OutM μ μ1) {a k : Nat} {v : Option Nat} (ha : 332 ≤ a ∧ a ≠ 340) : OutM μ (sR μ1 a k v) :=
  ⟨h.1, fun b hb' => ⟨(h.2 b hb').1, fun j => ⟨((h.2 b hb').2 j).1, ((h.2 b hb').2 j).2.1, by rw [rR_n (by omega)]; exact ((h.2 b hb').2 j).2.2⟩⟩⟩
theorem OutM.L {μ μ1 : ax_M} (h : OutM μ μ1) {a k : Nat} {v : Int64} (ha : 332 ≤ a ∧ a ≠ 340) : OutM μ (sL μ1 a k v) :=
  ⟨h.1, fun b hb' => ⟨(h.2 b hb').1, fun j => ⟨((h.2 b hb').2 j).1, by rw [lL_n (by omega)]; exact ((h.2 b hb').2 j).2.1, ((h.2 b hb').2 j).2.2⟩⟩⟩
theorem OutM.F {μ μ1 μ2 : ax_M} {P : Nat → Nat → Prop} (h : OutM μ μ1) (f : Fr P μ1 μ2) (hp : ∀ b k, P b k → 332 ≤ b ∧ b ≠ 340) : OutM μ μ2 :=
  ⟨by have := h.1; have e := f.1; unfold mN at *; omega, fun b hb' => ⟨by rw [f.2.1]; exact (h.2 b hb').1, fun j => ⟨by rw [f.I (fun q => by have := hp b j q; omega)]; exact ((h.2 b hb').2 j).1, by rw [f.L]; exact ((h.2 b hb').2 j).2.1, by rw [f.R]; exact ((h.2 b hb').2 j).2.2⟩⟩⟩
theorem inN_0 (x : Int32) : inN x 0 = false := by
  unfold inN
  rw [← q0]
  by_cases h : x < 0 <;> simp [h]
theorem Mx.f {P : Nat → Nat → Prop} {μ μ1 : ax_M} {st : St} (h : Mx μ st) (f : Fr P μ μ1) (hp : ∀ b k, P b k → b = 332 ∧ k ≠ 1 ∧ k ≠ 2 ∧ k ≠ 6 ∧ k ≠ 13) : Mx μ1 st := by
  obtain ⟨h1, h2, h3, h4, h5⟩ := h
  refine ⟨h1.fr f, ?_, ⟨h3.1, ?_⟩, fun i hi => ?_, ?_⟩
  · rw [f.I (fun q => by have := hp _ _ q; omega), f.I (fun q => by have := hp _ _ q; omega), f.I (fun q => by have := hp _ _ q; omega), f.I (fun q => by have := hp _ _ q; omega)]
    exact h2
  · have e := f.1; unfold mN at *; omega
  · rw [f.I (fun q => by have := hp _ _ q; omega)]
    exact h4 i hi
  · rcases h5 with h5 | ⟨a, N, h6, h7, h8⟩
    · exact Or.inl ⟨h5.1, by rw [f.R]; exact h5.2⟩
    · exact Or.inr ⟨a, N, h6, by have e := f.1; unfold mN at *; omega, h8.fr f (fun b k q => by have := hp b k q; omega)⟩
theorem Mx.s0 {μ : ax_M} {st : St} {v : Int32} (h : Mx μ st) : Mx (sI μ 332 0 v) st :=
  h.f ((Fr.refl (fun b k => b = 332 ∧ k = 0) μ).put ⟨rfl, rfl⟩) (fun b k q => by omega)
theorem Mx.tr {μ : ax_M} {st : St} {t : Nat} (h : Mx μ st) (ht : t ≠ 4) : Mx (sI (sI μ 332 1 (nI t)) 332 2 (-nI 1)) (sT st t) := by
  have f : Fr (fun b k => b = 332 ∧ (k = 1 ∨ k = 2)) μ (sI (sI μ 332 1 (nI t)) 332 2 (-nI 1)) := ((Fr.refl _ _).put ⟨rfl, Or.inl rfl⟩).put ⟨rfl, Or.inr rfl⟩
  obtain ⟨h1, h2, h3, h4, h5⟩ := h
  refine ⟨h1.fr f, ⟨?_, ?_, ?_, ?_⟩, h3, fun i hi => ?_, ?_⟩
  · rw [iI_n (by omega)]; exact iI_s _ _ _ _
  · have e : aWhere (sT st t) = -nI 1 := if_neg ht
    rw [e]; exact iI_s _ _ _ _
  · rw [f.I (by omega)]; exact h2.2.2.1
  · rw [f.I (by omega)]; exact h2.2.2.2
  · rw [f.I (by omega)]; exact h4 i hi
  · rcases h5 with h5 | ⟨a, N, h6, h7, h8⟩
    · exact Or.inl h5
    · exact Or.inr ⟨a, N, h6, h7, h8.fr f (fun b k q => by omega)⟩
theorem Mx.bd {μ : ax_M} {st : St} (h : Mx μ st) : (cn st 0 ≤ 20 ∧ cn st 1 ≤ 20 ∧ cn st 2 ≤ 20 ∧ cn st 3 ≤ 20 ∧ cn st 4 ≤ 20 ∧ cn st 5 ≤ 20 ∧ cn st 6 ≤ 20) ∧ ln st ≤ 900 ∧ 341 ≤ mN μ := by
  refine ⟨?_, h.2.2.1⟩
  rcases h.2.2.2.2 with ⟨h5, -⟩ | ⟨a, N, h6, h7, h8⟩
  · have c0 : ∀ k, cn st k = 0 := fun k => by unfold cn; rw [h5]
    simp only [c0]; decide
  · have hc := cnt20 h8.1.1.1
    unfold cn; rw [h6]
    exact ⟨hc 0 (by omega), hc 1 (by omega), hc 2 (by omega), hc 3 (by omega), hc 4 (by omega), hc 5 (by omega), hc 6 (by omega)⟩
theorem MB.s0 {μ : ax_M} {N : Nat} {a : Ld} {v : Int32} (h : MB μ N a) : MB (sI μ 332 0 v) N a := h.fr ((Fr.refl (fun b k => b = 332 ∧ k = 0) μ).put ⟨rfl, rfl⟩) (fun b k q => by omega)
theorem Mx.mb {μ : ax_M} {st : St} (h : Mx μ st) {j k : Nat} (hj : j < cn st k) : ∃ N, MB μ N (ldo st) ∧ N + 18 ≤ mN μ ∧ lan st = some (ldo st) ∧ cn st 0 = nMo (ldo st) ∧ cn st 1 = nGr (ldo st) ∧ cn st 2 = nTh (ldo st) ∧ cn st 3 = nCh (ldo st) ∧ cn st 4 = nTo (ldo st) ∧ cn st 5 = nHo (ldo st) ∧ cn st 6 = nOf (ldo st) := by
  have hl := cn_t hj
  rcases h.2.2.2.2 with ⟨h5, -⟩ | ⟨a, N, h6, h7, h8⟩
  · rw [h5] at hl; cases hl
  · rw [h6] at hl
    cases hl
    have hl : lan st = some (ldo st) := h6
    exact ⟨N, h8, h7, h6, cn_a hl 0, cn_a hl 1, cn_a hl 2, cn_a hl 3, cn_a hl 4, cn_a hl 5, cn_a hl 6⟩
theorem Mx.mb' {μ : ax_M} {st : St} (h : Mx μ st) {j k : Nat} (hj : j < cn st k) : ∃ N, MB μ N (ldo st) ∧ N + 18 ≤ mN μ ∧ lan st = some (ldo st) := by
  have hl := cn_t hj
  rcases h.2.2.2.2 with ⟨h5, -⟩ | ⟨a, N, h6, h7, h8⟩
  · rw [h5] at hl; cases hl
  · rw [h6] at hl
    cases hl
    exact ⟨N, h8, h7, h6⟩
section F5
variable {l : Launch} {G : ax_G} {μ : ax_M} {st : St}
theorem d60 {x : Int32} {K : Int32 → ax_M → Prop} (hx : Mx μ st) (q : K (bI (inN x (cn st 5))) μ) : ax_CI l G 60 [ax_r (some 332), ax_i x] μ K := by
  refine ax_Ct.of (by decide) (Nat.le_of_ble_eq_true rfl) (sg60_0 l G _ 332 _ _ ?_)
  rcases hx.2.2.2.2 with ⟨h5, h5'⟩ | ⟨a, N, h6, h7, h8⟩
  · have e : cn st 5 = 0 := by unfold cn; rw [h5]
    rw [e, inN_0] at q
    try simp (disch := omega) only [hx.1.all, h5', wr_s, in_nI, clN, ti_z, ti_l, true_and, and_true, kI, zI, rI, kL, zL, rL, kR, zR, nnI, nnL, nnR, iL, iR, lI, lR, exi, exl, exv, eq_self, nI_add, nI_mul, nI_sub, nI_ltI, nI_leI, nI_eq, q0, q1, q2, q3, q4, q5, q6, q10, q100, br_Tr, br_Fa, iI_s, iI_n, bI_q0, bI_q1, or_true, true_or, not_true_eq_false, not_false_eq_true, nI_l, ge64, Nat.lt_irrefl, Nat.add_sub_cancel, Nat.not_lt_zero, lN_0, lN_1e4, lN_1e6, lN_1e3, lN_add, lN_mul, lN_ltI, lN_leI, lN_eqI, lN_i, lcE, lcLe, lcLt, lN_div, q7, q12, q20, q99, q200, q999, q1e4, if_true, if_false, Nat.le_refl]
    exact q
  · have hb := h8.bd
    have e : cn st 5 = a.1 5 := cn_a h6 5
    rw [e] at q
    try simp (disch := omega) only [h8.1.1.2.1.all, h8.1.1.2.2.1, h8.1.1.2.2.2.1.all, h8.1.1.2.2.2.all, h8.1.2, h8.2, wr_s, in_nI, clN, ti_z, ti_l, true_and, and_true, kI, zI, rI, kL, zL, rL, kR, zR, nnI, nnL, nnR, iL, iR, lI, lR, exi, exl, exv, eq_self, nI_add, nI_mul, nI_sub, nI_ltI, nI_leI, nI_eq, q0, q1, q2, q3, q4, q5, q6, q10, q100, br_Tr, br_Fa, iI_s, iI_n, bI_q0, bI_q1, or_true, true_or, not_true_eq_false, not_false_eq_true, nI_l, ge64, Nat.lt_irrefl, Nat.add_sub_cancel, Nat.not_lt_zero, lN_0, lN_1e4, lN_1e6, lN_1e3, lN_add, lN_mul, lN_ltI, lN_leI, lN_eqI, lN_i, lcE, lcLe, lcLt, lN_div, q7, q12, q20, q99, q200, q999, q1e4, if_true, if_false, Nat.le_refl]
    refine ax_brf (fun e => by cases e) ⟨fun e => by cases e; omega, ?_⟩
    exact inN_br (fun h => by rw [h] at q; exact q) (fun h => by rw [h] at q; exact q)
theorem d62 {x : Int32} {K : Int32 → ax_M → Prop} (hx : Mx μ st) (q : K (bI (inN x (cn st 0))) μ) : ax_CI l G 62 [ax_r (some 332), ax_i x] μ K := by
  refine ax_Ct.of (by decide) (Nat.le_of_ble_eq_true rfl) (sg62_0 l G _ 332 _ _ ?_)
  rcases hx.2.2.2.2 with ⟨h5, h5'⟩ | ⟨a, N, h6, h7, h8⟩
  · have e : cn st 0 = 0 := by unfold cn; rw [h5]
    rw [e, inN_0] at q
    try simp (disch := omega) only [hx.1.all, h5', wr_s, in_nI, clN, ti_z, ti_l, true_and, and_true, kI, zI, rI, kL, zL, rL, kR, zR, nnI, nnL, nnR, iL, iR, lI, lR, exi, exl, exv, eq_self, nI_add, nI_mul, nI_sub, nI_ltI, nI_leI, nI_eq, q0, q1, q2, q3, q4, q5, q6, q10, q100, br_Tr, br_Fa, iI_s, iI_n, bI_q0, bI_q1, or_true, true_or, not_true_eq_false, not_false_eq_true, nI_l, ge64, Nat.lt_irrefl, Nat.add_sub_cancel, Nat.not_lt_zero, lN_0, lN_1e4, lN_1e6, lN_1e3, lN_add, lN_mul, lN_ltI, lN_leI, lN_eqI, lN_i, lcE, lcLe, lcLt, lN_div, q7, q12, q20, q99, q200, q999, q1e4, if_true, if_false, Nat.le_refl]
    exact q
  · have hb := h8.bd
    have e : cn st 0 = a.1 0 := cn_a h6 0
    rw [e] at q
    try simp (disch := omega) only [h8.1.1.2.1.all, h8.1.1.2.2.1, h8.1.1.2.2.2.1.all, h8.1.1.2.2.2.all, h8.1.2, h8.2, wr_s, in_nI, clN, ti_z, ti_l, true_and, and_true, kI, zI, rI, kL, zL, rL, kR, zR, nnI, nnL, nnR, iL, iR, lI, lR, exi, exl, exv, eq_self, nI_add, nI_mul, nI_sub, nI_ltI, nI_leI, nI_eq, q0, q1, q2, q3, q4, q5, q6, q10, q100, br_Tr, br_Fa, iI_s, iI_n, bI_q0, bI_q1, or_true, true_or, not_true_eq_false, not_false_eq_true, nI_l, ge64, Nat.lt_irrefl, Nat.add_sub_cancel, Nat.not_lt_zero, lN_0, lN_1e4, lN_1e6, lN_1e3, lN_add, lN_mul, lN_ltI, lN_leI, lN_eqI, lN_i, lcE, lcLe, lcLt, lN_div, q7, q12, q20, q99, q200, q999, q1e4, if_true, if_false, Nat.le_refl]
    refine ax_brf (fun e => by cases e) ⟨fun e => by cases e; omega, ?_⟩
    exact inN_br (fun h => by rw [h] at q; exact q) (fun h => by rw [h] at q; exact q)
theorem d63 {x : Int32} {K : Int32 → ax_M → Prop} (hx : Mx μ st) (q : K (bI (inN x (cn st 6))) μ) : ax_CI l G 63 [ax_r (some 332), ax_i x] μ K := by
  refine ax_Ct.of (by decide) (Nat.le_of_ble_eq_true rfl) (sg63_0 l G _ 332 _ _ ?_)
  rcases hx.2.2.2.2 with ⟨h5, h5'⟩ | ⟨a, N, h6, h7, h8⟩
  · have e : cn st 6 = 0 := by unfold cn; rw [h5]
    rw [e, inN_0] at q
    try simp (disch := omega) only [hx.1.all, h5', wr_s, in_nI, clN, ti_z, ti_l, true_and, and_true, kI, zI, rI, kL, zL, rL, kR, zR, nnI, nnL, nnR, iL, iR, lI, lR, exi, exl, exv, eq_self, nI_add, nI_mul, nI_sub, nI_ltI, nI_leI, nI_eq, q0, q1, q2, q3, q4, q5, q6, q10, q100, br_Tr, br_Fa, iI_s, iI_n, bI_q0, bI_q1, or_true, true_or, not_true_eq_false, not_false_eq_true, nI_l, ge64, Nat.lt_irrefl, Nat.add_sub_cancel, Nat.not_lt_zero, lN_0, lN_1e4, lN_1e6, lN_1e3, lN_add, lN_mul, lN_ltI, lN_leI, lN_eqI, lN_i, lcE, lcLe, lcLt, lN_div, q7, q12, q20, q99, q200, q999, q1e4, if_true, if_false, Nat.le_refl]
    exact q
  · have hb := h8.bd
    have e : cn st 6 = a.1 6 := cn_a h6 6
    rw [e] at q
    try simp (disch := omega) only [h8.1.1.2.1.all, h8.1.1.2.2.1, h8.1.1.2.2.2.1.all, h8.1.1.2.2.2.all, h8.1.2, h8.2, wr_s, in_nI, clN, ti_z, ti_l, true_and, and_true, kI, zI, rI, kL, zL, rL, kR, zR, nnI, nnL, nnR, iL, iR, lI, lR, exi, exl, exv, eq_self, nI_add, nI_mul, nI_sub, nI_ltI, nI_leI, nI_eq, q0, q1, q2, q3, q4, q5, q6, q10, q100, br_Tr, br_Fa, iI_s, iI_n, bI_q0, bI_q1, or_true, true_or, not_true_eq_false, not_false_eq_true, nI_l, ge64, Nat.lt_irrefl, Nat.add_sub_cancel, Nat.not_lt_zero, lN_0, lN_1e4, lN_1e6, lN_1e3, lN_add, lN_mul, lN_ltI, lN_leI, lN_eqI, lN_i, lcE, lcLe, lcLt, lN_div, q7, q12, q20, q99, q200, q999, q1e4, if_true, if_false, Nat.le_refl]
    refine ax_brf (fun e => by cases e) ⟨fun e => by cases e; omega, ?_⟩
    exact inN_br (fun h => by rw [h] at q; exact q) (fun h => by rw [h] at q; exact q)
theorem d64 {x : Int32} {K : Int32 → ax_M → Prop} (hx : Mx μ st) (q : K (bI (inN x (cn st 2))) μ) : ax_CI l G 64 [ax_r (some 332), ax_i x] μ K := by
  refine ax_Ct.of (by decide) (Nat.le_of_ble_eq_true rfl) (sg64_0 l G _ 332 _ _ ?_)
  rcases hx.2.2.2.2 with ⟨h5, h5'⟩ | ⟨a, N, h6, h7, h8⟩
  · have e : cn st 2 = 0 := by unfold cn; rw [h5]
    rw [e, inN_0] at q
    try simp (disch := omega) only [hx.1.all, h5', wr_s, in_nI, clN, ti_z, ti_l, true_and, and_true, kI, zI, rI, kL, zL, rL, kR, zR, nnI, nnL, nnR, iL, iR, lI, lR, exi, exl, exv, eq_self, nI_add, nI_mul, nI_sub, nI_ltI, nI_leI, nI_eq, q0, q1, q2, q3, q4, q5, q6, q10, q100, br_Tr, br_Fa, iI_s, iI_n, bI_q0, bI_q1, or_true, true_or, not_true_eq_false, not_false_eq_true, nI_l, ge64, Nat.lt_irrefl, Nat.add_sub_cancel, Nat.not_lt_zero, lN_0, lN_1e4, lN_1e6, lN_1e3, lN_add, lN_mul, lN_ltI, lN_leI, lN_eqI, lN_i, lcE, lcLe, lcLt, lN_div, q7, q12, q20, q99, q200, q999, q1e4, if_true, if_false, Nat.le_refl]
    exact q
  · have hb := h8.bd
    have e : cn st 2 = a.1 2 := cn_a h6 2
    rw [e] at q
    try simp (disch := omega) only [h8.1.1.2.1.all, h8.1.1.2.2.1, h8.1.1.2.2.2.1.all, h8.1.1.2.2.2.all, h8.1.2, h8.2, wr_s, in_nI, clN, ti_z, ti_l, true_and, and_true, kI, zI, rI, kL, zL, rL, kR, zR, nnI, nnL, nnR, iL, iR, lI, lR, exi, exl, exv, eq_self, nI_add, nI_mul, nI_sub, nI_ltI, nI_leI, nI_eq, q0, q1, q2, q3, q4, q5, q6, q10, q100, br_Tr, br_Fa, iI_s, iI_n, bI_q0, bI_q1, or_true, true_or, not_true_eq_false, not_false_eq_true, nI_l, ge64, Nat.lt_irrefl, Nat.add_sub_cancel, Nat.not_lt_zero, lN_0, lN_1e4, lN_1e6, lN_1e3, lN_add, lN_mul, lN_ltI, lN_leI, lN_eqI, lN_i, lcE, lcLe, lcLt, lN_div, q7, q12, q20, q99, q200, q999, q1e4, if_true, if_false, Nat.le_refl]
    refine ax_brf (fun e => by cases e) ⟨fun e => by cases e; omega, ?_⟩
    exact inN_br (fun h => by rw [h] at q; exact q) (fun h => by rw [h] at q; exact q)
theorem d59 {x : Int32} {K : Int32 → ax_M → Prop} (hx : Mx μ st) (q : K (bI (inN x (cn st 1))) μ) : ax_CI l G 59 [ax_r (some 332), ax_i x] μ K := by
  refine ax_Ct.of (by decide) (Nat.le_of_ble_eq_true rfl) (sg59_0 l G _ 332 _ _ ?_)
  rcases hx.2.2.2.2 with ⟨h5, h5'⟩ | ⟨a, N, h6, h7, h8⟩
  · have e : cn st 1 = 0 := by unfold cn; rw [h5]
    rw [e, inN_0] at q
    try simp (disch := omega) only [hx.1.all, h5', wr_s, in_nI, clN, ti_z, ti_l, true_and, and_true, kI, zI, rI, kL, zL, rL, kR, zR, nnI, nnL, nnR, iL, iR, lI, lR, exi, exl, exv, eq_self, nI_add, nI_mul, nI_sub, nI_ltI, nI_leI, nI_eq, q0, q1, q2, q3, q4, q5, q6, q10, q100, br_Tr, br_Fa, iI_s, iI_n, bI_q0, bI_q1, or_true, true_or, not_true_eq_false, not_false_eq_true, nI_l, ge64, Nat.lt_irrefl, Nat.add_sub_cancel, Nat.not_lt_zero, lN_0, lN_1e4, lN_1e6, lN_1e3, lN_add, lN_mul, lN_ltI, lN_leI, lN_eqI, lN_i, lcE, lcLe, lcLt, lN_div, q7, q12, q20, q99, q200, q999, q1e4, if_true, if_false, Nat.le_refl]
    exact q
  · have hb := h8.bd
    have e : cn st 1 = a.1 1 := cn_a h6 1
    rw [e] at q
    try simp (disch := omega) only [h8.1.1.2.1.all, h8.1.1.2.2.1, h8.1.1.2.2.2.1.all, h8.1.1.2.2.2.all, h8.1.2, h8.2, wr_s, in_nI, clN, ti_z, ti_l, true_and, and_true, kI, zI, rI, kL, zL, rL, kR, zR, nnI, nnL, nnR, iL, iR, lI, lR, exi, exl, exv, eq_self, nI_add, nI_mul, nI_sub, nI_ltI, nI_leI, nI_eq, q0, q1, q2, q3, q4, q5, q6, q10, q100, br_Tr, br_Fa, iI_s, iI_n, bI_q0, bI_q1, or_true, true_or, not_true_eq_false, not_false_eq_true, nI_l, ge64, Nat.lt_irrefl, Nat.add_sub_cancel, Nat.not_lt_zero, lN_0, lN_1e4, lN_1e6, lN_1e3, lN_add, lN_mul, lN_ltI, lN_leI, lN_eqI, lN_i, lcE, lcLe, lcLt, lN_div, q7, q12, q20, q99, q200, q999, q1e4, if_true, if_false, Nat.le_refl]
    refine ax_brf (fun e => by cases e) ⟨fun e => by cases e; omega, ?_⟩
    exact inN_br (fun h => by rw [h] at q; exact q) (fun h => by rw [h] at q; exact q)
theorem d57 {x : Int32} {n : Nat} {K : Int32 → ax_M → Prop} (hn : n < 2 ^ 31 - 1) (q : K (bI (inN x (n + 1))) μ) : ax_CI l G 57 [ax_i x, ax_i (nI 0), ax_i (nI n)] μ K := by
  refine ax_Ct.of (by decide) (Nat.le_of_ble_eq_true rfl) (sg57_0 l G _ _ _ _ _ ?_)
  try simp (disch := omega) only [wr_s, in_nI, clN, ti_z, ti_l, true_and, and_true, kI, zI, rI, kL, zL, rL, kR, zR, nnI, nnL, nnR, iL, iR, lI, lR, exi, exl, exv, eq_self, nI_add, nI_mul, nI_sub, nI_ltI, nI_leI, nI_eq, q0, q1, q2, q3, q4, q5, q6, q10, q100, br_Tr, br_Fa, iI_s, iI_n, bI_q0, bI_q1, or_true, true_or, not_true_eq_false, not_false_eq_true, nI_l, ge64, Nat.lt_irrefl, Nat.add_sub_cancel, Nat.not_lt_zero, lN_0, lN_1e4, lN_1e6, lN_1e3, lN_add, lN_mul, lN_ltI, lN_leI, lN_eqI, lN_i, lcE, lcLe, lcLt, lN_div, q7, q12, q20, q99, q200, q999, q1e4, if_true, if_false, Nat.le_refl]
  rw [← inN3 hn]
  exact inN_br (fun h => by rw [h] at q; exact q) (fun h => by rw [h] at q; exact q)
theorem d57k {x : Int32} {n : Nat} {K : Int32 → ax_M → Prop} (q : K (bI (inK x n)) μ) : ax_CI l G 57 [ax_i x, ax_i (nI 1), ax_i (nI n)] μ K := by
  refine ax_Ct.of (by decide) (Nat.le_of_ble_eq_true rfl) (sg57_0 l G _ _ _ _ _ ?_)
  try simp (disch := omega) only [wr_s, in_nI, clN, ti_z, ti_l, true_and, and_true, kI, zI, rI, kL, zL, rL, kR, zR, nnI, nnL, nnR, iL, iR, lI, lR, exi, exl, exv, eq_self, nI_add, nI_mul, nI_sub, nI_ltI, nI_leI, nI_eq, q0, q1, q2, q3, q4, q5, q6, q10, q100, br_Tr, br_Fa, iI_s, iI_n, bI_q0, bI_q1, or_true, true_or, not_true_eq_false, not_false_eq_true, nI_l, ge64, Nat.lt_irrefl, Nat.add_sub_cancel, Nat.not_lt_zero, lN_0, lN_1e4, lN_1e6, lN_1e3, lN_add, lN_mul, lN_ltI, lN_leI, lN_eqI, lN_i, lcE, lcLe, lcLt, lN_div, q7, q12, q20, q99, q200, q999, q1e4, if_true, if_false, Nat.le_refl]
  exact inK_br (fun h => by rw [h] at q; exact q) (fun h => by rw [h] at q; exact q)
theorem OutM.s0 {v : Int32} : OutM μ (sI μ 332 0 v) := (OutM.refl _).I (by omega)
theorem OutM.s3 {v w z : Int32} : OutM μ (sI (sI (sI μ 332 0 v) 332 1 w) 332 2 z) := (((OutM.refl _).I (by omega)).I (by omega)).I (by omega)
theorem d68 {t : Nat} {K : Int32 → ax_M → Prop} (hx : Mx μ st) (ht : t ≠ 4) (q : ∀ μ', OutM μ μ' → Mx μ' (sT st t) → K (-nI 1) μ') : ax_CI l G 68 [ax_r (some 332), ax_i (nI t)] (sI μ 332 0 (nI 0)) K := by
  refine ax_Ct.of (by decide) (Nat.le_of_ble_eq_true rfl) (sg68_0 l G _ 332 _ _ ?_)
  try simp (disch := omega) only [hx.1.all, wr_s, in_nI, clN, ti_z, ti_l, true_and, and_true, kI, zI, rI, kL, zL, rL, kR, zR, nnI, nnL, nnR, iL, iR, lI, lR, exi, exl, exv, eq_self, nI_add, nI_mul, nI_sub, nI_ltI, nI_leI, nI_eq, q0, q1, q2, q3, q4, q5, q6, q10, q100, br_Tr, br_Fa, iI_s, iI_n, bI_q0, bI_q1, or_true, true_or, not_true_eq_false, not_false_eq_true, nI_l, ge64, Nat.lt_irrefl, Nat.add_sub_cancel, Nat.not_lt_zero, lN_0, lN_1e4, lN_1e6, lN_1e3, lN_add, lN_mul, lN_ltI, lN_leI, lN_eqI, lN_i, lcE, lcLe, lcLt, lN_div, q7, q12, q20, q99, q200, q999, q1e4, if_true, if_false, Nat.le_refl]
  exact q _ OutM.s3 (hx.s0.tr ht)
theorem d51 {v : Int32} {K : Int32 → ax_M → Prop} (hx : Mx μ st) (q : ∀ μ', OutM μ μ' → Mx μ' (sT st 0) → K v μ') : ax_CI l G 51 [ax_r (some 332), ax_i v] (sI μ 332 0 (nI 0)) K := by
  refine ax_Ct.of (by decide) (Nat.le_of_ble_eq_true rfl) (sg51_0 l G _ 332 _ _ ?_)
  try simp (disch := omega) only [hx.1.all, wr_s, in_nI, clN, ti_z, ti_l, true_and, and_true, kI, zI, rI, kL, zL, rL, kR, zR, nnI, nnL, nnR, iL, iR, lI, lR, exi, exl, exv, eq_self, nI_add, nI_mul, nI_sub, nI_ltI, nI_leI, nI_eq, q0, q1, q2, q3, q4, q5, q6, q10, q100, br_Tr, br_Fa, iI_s, iI_n, bI_q0, bI_q1, or_true, true_or, not_true_eq_false, not_false_eq_true, nI_l, ge64, Nat.lt_irrefl, Nat.add_sub_cancel, Nat.not_lt_zero, lN_0, lN_1e4, lN_1e6, lN_1e3, lN_add, lN_mul, lN_ltI, lN_leI, lN_eqI, lN_i, lcE, lcLe, lcLt, lN_div, q7, q12, q20, q99, q200, q999, q1e4, if_true, if_false, Nat.le_refl]
  exact q _ OutM.s3 (hx.s0.tr (by omega))
theorem d116 {t : Nat} {K : Int32 → ax_M → Prop} (hx : Mx μ st) (ht : t ≠ 4) (q : ∀ μ', OutM μ μ' → Mx μ' (sT st t) → K (-1000000000) μ') : ax_CI l G 116 [ax_r (some 332), ax_i (nI t)] (sI μ 332 0 (nI 0)) K := by
  refine ax_Ct.of (by decide) (Nat.le_of_ble_eq_true rfl) (sg116_0 l G _ 332 _ _ ?_)
  try simp (disch := omega) only [hx.1.all, wr_s, in_nI, clN, ti_z, ti_l, true_and, and_true, kI, zI, rI, kL, zL, rL, kR, zR, nnI, nnL, nnR, iL, iR, lI, lR, exi, exl, exv, eq_self, nI_add, nI_mul, nI_sub, nI_ltI, nI_leI, nI_eq, q0, q1, q2, q3, q4, q5, q6, q10, q100, br_Tr, br_Fa, iI_s, iI_n, bI_q0, bI_q1, or_true, true_or, not_true_eq_false, not_false_eq_true, nI_l, ge64, Nat.lt_irrefl, Nat.add_sub_cancel, Nat.not_lt_zero, lN_0, lN_1e4, lN_1e6, lN_1e3, lN_add, lN_mul, lN_ltI, lN_leI, lN_eqI, lN_i, lcE, lcLe, lcLt, lN_div, q7, q12, q20, q99, q200, q999, q1e4, if_true, if_false, Nat.le_refl]
  exact d68 hx ht q
theorem m53 {K : Int32 → ax_M → Prop} (hx : Mx μ st) (q : ∀ μ', OutM μ μ' → Mx μ' st → K (nI (fau st)) μ') : ax_CI l G 53 [ax_r (some 332)] μ K := by
  refine ax_Ct.of (by decide) (Nat.le_of_ble_eq_true rfl) (sg53_0 l G _ 332 _ ?_)
  try simp (disch := omega) only [hx.1.all, hx.2.1, wr_s, in_nI, clN, ti_z, ti_l, true_and, and_true, kI, zI, rI, kL, zL, rL, kR, zR, nnI, nnL, nnR, iL, iR, lI, lR, exi, exl, exv, eq_self, nI_add, nI_mul, nI_sub, nI_ltI, nI_leI, nI_eq, q0, q1, q2, q3, q4, q5, q6, q10, q100, br_Tr, br_Fa, iI_s, iI_n, bI_q0, bI_q1, or_true, true_or, not_true_eq_false, not_false_eq_true, nI_l, ge64, Nat.lt_irrefl, Nat.add_sub_cancel, Nat.not_lt_zero, lN_0, lN_1e4, lN_1e6, lN_1e3, lN_add, lN_mul, lN_ltI, lN_leI, lN_eqI, lN_i, lcE, lcLe, lcLt, lN_div, q7, q12, q20, q99, q200, q999, q1e4, if_true, if_false, Nat.le_refl]
  exact q _ OutM.s0 hx.s0
theorem m73 {K : Int32 → ax_M → Prop} (hx : Mx μ st) (q : ∀ μ', OutM μ μ' → Mx μ' st → K (aWhere st) μ') : ax_CI l G 73 [ax_r (some 332)] μ K := by
  refine ax_Ct.of (by decide) (Nat.le_of_ble_eq_true rfl) (sg73_0 l G _ 332 _ ?_)
  try simp (disch := omega) only [hx.1.all, hx.2.1, wr_s, in_nI, clN, ti_z, ti_l, true_and, and_true, kI, zI, rI, kL, zL, rL, kR, zR, nnI, nnL, nnR, iL, iR, lI, lR, exi, exl, exv, eq_self, nI_add, nI_mul, nI_sub, nI_ltI, nI_leI, nI_eq, q0, q1, q2, q3, q4, q5, q6, q10, q100, br_Tr, br_Fa, iI_s, iI_n, bI_q0, bI_q1, or_true, true_or, not_true_eq_false, not_false_eq_true, nI_l, ge64, Nat.lt_irrefl, Nat.add_sub_cancel, Nat.not_lt_zero, lN_0, lN_1e4, lN_1e6, lN_1e3, lN_add, lN_mul, lN_ltI, lN_leI, lN_eqI, lN_i, lcE, lcLe, lcLt, lN_div, q7, q12, q20, q99, q200, q999, q1e4, if_true, if_false, Nat.le_refl]
  exact q _ OutM.s0 hx.s0
theorem m71 {K : Int32 → ax_M → Prop} (hx : Mx μ st) (q : ∀ μ', OutM μ μ' → Mx μ' st → K (nI (tro st)) μ') : ax_CI l G 71 [ax_r (some 332)] μ K := by
  refine ax_Ct.of (by decide) (Nat.le_of_ble_eq_true rfl) (sg71_0 l G _ 332 _ ?_)
  try simp (disch := omega) only [hx.1.all, hx.2.1, wr_s, in_nI, clN, ti_z, ti_l, true_and, and_true, kI, zI, rI, kL, zL, rL, kR, zR, nnI, nnL, nnR, iL, iR, lI, lR, exi, exl, exv, eq_self, nI_add, nI_mul, nI_sub, nI_ltI, nI_leI, nI_eq, q0, q1, q2, q3, q4, q5, q6, q10, q100, br_Tr, br_Fa, iI_s, iI_n, bI_q0, bI_q1, or_true, true_or, not_true_eq_false, not_false_eq_true, nI_l, ge64, Nat.lt_irrefl, Nat.add_sub_cancel, Nat.not_lt_zero, lN_0, lN_1e4, lN_1e6, lN_1e3, lN_add, lN_mul, lN_ltI, lN_leI, lN_eqI, lN_i, lcE, lcLe, lcLt, lN_div, q7, q12, q20, q99, q200, q999, q1e4, if_true, if_false, Nat.le_refl]
  exact q _ OutM.s0 hx.s0
theorem m120 {x : Int32} {K : Int32 → ax_M → Prop} (hx : Mx μ st) (q : ∀ μ', OutM μ μ' → Mx μ' st → K (aSize st x) μ') : ax_CI l G 120 [ax_r (some 332), ax_i x] μ K := by
  have hb := hx.bd
  have q := q _ (OutM.s0 (v := nI 0)) hx.s0
  unfold aSize at q
  refine ax_Ct.of (by decide) (Nat.le_of_ble_eq_true rfl) (sg120_0 l G _ 332 _ _ ?_)
  try simp (disch := omega) only [hx.1.all, hx.2.1, wr_s, in_nI, clN, ti_z, ti_l, true_and, and_true, kI, zI, rI, kL, zL, rL, kR, zR, nnI, nnL, nnR, iL, iR, lI, lR, exi, exl, exv, eq_self, nI_add, nI_mul, nI_sub, nI_ltI, nI_leI, q0, q1, q2, q3, q4, q5, q6, q10, q100, br_Tr, br_Fa, iI_s, iI_n, bI_q0, bI_q1, or_true, true_or, not_true_eq_false, not_false_eq_true, nI_l, ge64, Nat.lt_irrefl, Nat.add_sub_cancel, Nat.not_lt_zero, lN_0, lN_1e4, lN_1e6, lN_1e3, lN_add, lN_mul, lN_ltI, lN_leI, lN_eqI, lN_i, lcE, lcLe, lcLt, lN_div, q7, q12, q20, q99, q200, q999, q1e4, if_true, if_false, Nat.le_refl]
  by_cases h6 : x = nI 6
  · refine ax_brt h6 ?_
    subst h6
    simp only [nI_eq (show 6 < 2 ^ 31 by omega) (show 0 < 2 ^ 31 by omega), nI_eq (show 6 < 2 ^ 31 by omega) (show 1 < 2 ^ 31 by omega), nI_eq (show 6 < 2 ^ 31 by omega) (show 2 < 2 ^ 31 by omega), nI_eq (show 6 < 2 ^ 31 by omega) (show 3 < 2 ^ 31 by omega), nI_eq (show 6 < 2 ^ 31 by omega) (show 4 < 2 ^ 31 by omega), nI_eq (show 6 < 2 ^ 31 by omega) (show 5 < 2 ^ 31 by omega), if_neg (show ¬ 6 = 0 by omega), if_neg (show ¬ 6 = 1 by omega), if_neg (show ¬ 6 = 2 by omega), if_neg (show ¬ 6 = 3 by omega), if_neg (show ¬ 6 = 4 by omega), if_neg (show ¬ 6 = 5 by omega), if_true] at q
    exact q
  · refine ax_brf h6 ?_
    rw [if_neg h6] at q
    refine d57 (n := 5) (by omega) ?_
    try simp (disch := omega) only [hx.1.all, hx.2.1, wr_s, in_nI, clN, ti_z, ti_l, true_and, and_true, kI, zI, rI, kL, zL, rL, kR, zR, nnI, nnL, nnR, iL, iR, lI, lR, exi, exl, exv, eq_self, nI_add, nI_mul, nI_sub, nI_ltI, nI_leI, q0, q1, q2, q3, q4, q5, q6, q10, q100, br_Tr, br_Fa, iI_s, iI_n, bI_q0, bI_q1, or_true, true_or, not_true_eq_false, not_false_eq_true, nI_l, ge64, Nat.lt_irrefl, Nat.add_sub_cancel, Nat.not_lt_zero, lN_0, lN_1e4, lN_1e6, lN_1e3, lN_add, lN_mul, lN_ltI, lN_leI, lN_eqI, lN_i, lcE, lcLe, lcLt, lN_div, q7, q12, q20, q99, q200, q999, q1e4, if_true, if_false, Nat.le_refl]
    refine ax_brc (fun h => ?_) (fun h => ?_)
    · have hne : ∀ j, j < 6 → ¬ x = nI j := fun j hj e => by
        rw [e, inN_of hj (by omega)] at h; cases h
      rw [if_neg (hne 0 (by omega)), if_neg (hne 1 (by omega)), if_neg (hne 2 (by omega)), if_neg (hne 3 (by omega)), if_neg (hne 4 (by omega)), if_neg (hne 5 (by omega))] at q
      exact q
    · have h : inN x 6 = true := by simpa using h
      obtain ⟨j, hj, rfl⟩ := inN_t (by omega) h
      rcases hx.2.2.2.2 with ⟨h5, h5'⟩ | ⟨a, N, h7, h8, h9⟩
      · have c0 : ∀ k, cn st k = 0 := fun k => by unfold cn; rw [h5]
        simp only [c0, ite_self] at q
        try simp (disch := omega) only [h5', wr_s, in_nI, clN, ti_z, ti_l, true_and, and_true, kI, zI, rI, kL, zL, rL, kR, zR, nnI, nnL, nnR, iL, iR, lI, lR, exi, exl, exv, eq_self, nI_add, nI_mul, nI_sub, nI_ltI, nI_leI, nI_eq, q0, q1, q2, q3, q4, q5, q6, q10, q100, br_Tr, br_Fa, iI_s, iI_n, bI_q0, bI_q1, or_true, true_or, not_true_eq_false, not_false_eq_true, nI_l, ge64, Nat.lt_irrefl, Nat.add_sub_cancel, Nat.not_lt_zero, lN_0, lN_1e4, lN_1e6, lN_1e3, lN_add, lN_mul, lN_ltI, lN_leI, lN_eqI, lN_i, lcE, lcLe, lcLt, lN_div, q7, q12, q20, q99, q200, q999, q1e4, if_true, if_false, Nat.le_refl]
        by_cases e : nI j = nI 0 ∨ nI j = nI 1 ∨ nI j = nI 2 ∨ nI j = nI 3 ∨ nI j = nI 4 ∨ nI j = nI 5
        · have : (if nI j = nI 5 then nI 0 else -nI 1) = nI 0 ∨ True := Or.inr trivial
          have hj' : j = 0 ∨ j = 1 ∨ j = 2 ∨ j = 3 ∨ j = 4 ∨ j = 5 := by omega
          rcases hj' with rfl | rfl | rfl | rfl | rfl | rfl <;> exact q
        · exfalso
          apply e
          have hj' : j = 0 ∨ j = 1 ∨ j = 2 ∨ j = 3 ∨ j = 4 ∨ j = 5 := by omega
          rcases hj' with rfl | rfl | rfl | rfl | rfl | rfl <;> simp
      · have hb2 := h9.bd
        have ca : ∀ k, cn st k = a.1 k := fun k => cn_a h7 k
        simp only [ca] at q
        refine ax_brf (by rw [h9.1.1.2.2.1]; exact fun e => by cases e) ⟨by rw [h9.1.1.2.2.1]; exact fun e => by cases e; omega, ?_⟩
        try simp (disch := omega) only [h9.1.1.2.1.all, h9.1.1.2.2.1, h9.1.1.2.2.2.1.all, h9.1.1.2.2.2.all, h9.1.2, h9.2, wr_s, in_nI, clN, ti_z, ti_l, true_and, and_true, kI, zI, rI, kL, zL, rL, kR, zR, nnI, nnL, nnR, iL, iR, lI, lR, exi, exl, exv, eq_self, nI_add, nI_mul, nI_sub, nI_ltI, nI_leI, q0, q1, q2, q3, q4, q5, q6, q10, q100, br_Tr, br_Fa, iI_s, iI_n, bI_q0, bI_q1, or_true, true_or, not_true_eq_false, not_false_eq_true, nI_l, ge64, Nat.lt_irrefl, Nat.add_sub_cancel, Nat.not_lt_zero, lN_0, lN_1e4, lN_1e6, lN_1e3, lN_add, lN_mul, lN_ltI, lN_leI, lN_eqI, lN_i, lcE, lcLe, lcLt, lN_div, q7, q12, q20, q99, q200, q999, q1e4, if_true, if_false, Nat.le_refl]
        refine ax_brc (fun e => by rw [if_pos e] at q; exact q) (fun e => ?_)
        rw [if_neg e] at q
        refine ax_brc (fun e => by rw [if_pos e] at q; exact q) (fun e => ?_)
        rw [if_neg e] at q
        refine ax_brc (fun e => by rw [if_pos e] at q; exact q) (fun e => ?_)
        rw [if_neg e] at q
        refine ax_brc (fun e => by rw [if_pos e] at q; exact q) (fun e => ?_)
        rw [if_neg e] at q
        refine ax_brc (fun e => by rw [if_pos e] at q; exact q) (fun e => ?_)
        rw [if_neg e] at q
        rename_i e0 e1 e2 e3
        have hj5 : j = 5 := by
          rcases (show j = 0 ∨ j = 1 ∨ j = 2 ∨ j = 3 ∨ j = 4 ∨ j = 5 by omega) with rfl | rfl | rfl | rfl | rfl | rfl
          · exact absurd rfl e0
          · exact absurd rfl e1
          · exact absurd rfl e2
          · exact absurd rfl e3
          · exact absurd rfl e
          · rfl
        subst hj5
        rw [if_pos rfl] at q
        exact q
end F5
