/-! the model's memory -/
theorem q12 : (12 : Int32) = nI 12 := by decide +kernel
def isML (μ : ax_M) (N : Nat) : Prop := 341 ≤ N ∧ mK μ N = 11 ∧ gR μ N 8 = some (N + 1) ∧ mK μ (N + 1) = 21 ∧ mZ μ (N + 1) = 8 ∧ gR μ N 9 = some (N + 2) ∧ mK μ (N + 2) = 21 ∧ mZ μ (N + 2) = 8 ∧ gR μ N 10 = some (N + 3) ∧ mK μ (N + 3) = 21 ∧ mZ μ (N + 3) = 8 ∧ gR μ N 11 = some (N + 4) ∧ mK μ (N + 4) = 21 ∧ mZ μ (N + 4) = 8 ∧ gR μ N 12 = some (N + 5) ∧ mK μ (N + 5) = 21 ∧ mZ μ (N + 5) = 21 ∧ gR μ N 13 = some (N + 6) ∧ mK μ (N + 6) = 21 ∧ mZ μ (N + 6) = 21 ∧ gR μ N 14 = some (N + 7) ∧ mK μ (N + 7) = 21 ∧ mZ μ (N + 7) = 21 ∧ gR μ N 15 = some (N + 8) ∧ mK μ (N + 8) = 21 ∧ mZ μ (N + 8) = 21 ∧ gR μ N 16 = some (N + 9) ∧ mK μ (N + 9) = 21 ∧ mZ μ (N + 9) = 3 ∧ gR μ N 17 = some (N + 10) ∧ mK μ (N + 10) = 21 ∧ mZ μ (N + 10) = 3 ∧ gR μ N 18 = some (N + 11) ∧ mK μ (N + 11) = 21 ∧ mZ μ (N + 11) = 12 ∧ gR μ N 19 = some (N + 12) ∧ mK μ (N + 12) = 21 ∧ mZ μ (N + 12) = 3 ∧ gR μ N 20 = some (N + 13) ∧ mK μ (N + 13) = 23 ∧ mZ μ (N + 13) = 3 ∧ gR μ N 21 = some (N + 14) ∧ mK μ (N + 14) = 23 ∧ mZ μ (N + 14) = 3 ∧ gR μ N 22 = some (N + 15) ∧ mK μ (N + 15) = 22 ∧ mZ μ (N + 15) = 18 ∧ gR μ N 23 = some (N + 16) ∧ mK μ (N + 16) = 21 ∧ mZ μ (N + 16) = 18 ∧ gR μ N 24 = some (N + 17) ∧ mK μ (N + 17) = 21 ∧ mZ μ (N + 17) = 18
theorem isML.all {μ : ax_M} {N : Nat} (h : isML μ N) : 341 ≤ N ∧ mK μ N = 11 ∧ gR μ N 8 = some (N + 1) ∧ mK μ (N + 1) = 21 ∧ mZ μ (N + 1) = 8 ∧ gR μ N 9 = some (N + 2) ∧ mK μ (N + 2) = 21 ∧ mZ μ (N + 2) = 8 ∧ gR μ N 10 = some (N + 3) ∧ mK μ (N + 3) = 21 ∧ mZ μ (N + 3) = 8 ∧ gR μ N 11 = some (N + 4) ∧ mK μ (N + 4) = 21 ∧ mZ μ (N + 4) = 8 ∧ gR μ N 12 = some (N + 5) ∧ mK μ (N + 5) = 21 ∧ mZ μ (N + 5) = 21 ∧ gR μ N 13 = some (N + 6) ∧ mK μ (N + 6) = 21 ∧ mZ μ (N + 6) = 21 ∧ gR μ N 14 = some (N + 7) ∧ mK μ (N + 7) = 21 ∧ mZ μ (N + 7) = 21 ∧ gR μ N 15 = some (N + 8) ∧ mK μ (N + 8) = 21 ∧ mZ μ (N + 8) = 21 ∧ gR μ N 16 = some (N + 9) ∧ mK μ (N + 9) = 21 ∧ mZ μ (N + 9) = 3 ∧ gR μ N 17 = some (N + 10) ∧ mK μ (N + 10) = 21 ∧ mZ μ (N + 10) = 3 ∧ gR μ N 18 = some (N + 11) ∧ mK μ (N + 11) = 21 ∧ mZ μ (N + 11) = 12 ∧ gR μ N 19 = some (N + 12) ∧ mK μ (N + 12) = 21 ∧ mZ μ (N + 12) = 3 ∧ gR μ N 20 = some (N + 13) ∧ mK μ (N + 13) = 23 ∧ mZ μ (N + 13) = 3 ∧ gR μ N 21 = some (N + 14) ∧ mK μ (N + 14) = 23 ∧ mZ μ (N + 14) = 3 ∧ gR μ N 22 = some (N + 15) ∧ mK μ (N + 15) = 22 ∧ mZ μ (N + 15) = 18 ∧ gR μ N 23 = some (N + 16) ∧ mK μ (N + 16) = 21 ∧ mZ μ (N + 16) = 18 ∧ gR μ N 24 = some (N + 17) ∧ mK μ (N + 17) = 21 ∧ mZ μ (N + 17) = 18 := h
def isMo (μ : ax_M) : Prop := mK μ 332 = 12 ∧ gR μ 332 5 = some 333 ∧ mK μ 333 = 20 ∧ mZ μ 333 = 900 ∧ gR μ 332 16 = some 334 ∧ mK μ 334 = 21 ∧ mZ μ 334 = 96 ∧ gR μ 332 17 = some 335 ∧ mK μ 335 = 21 ∧ mZ μ 335 = 96 ∧ gR μ 332 18 = some 336 ∧ mK μ 336 = 21 ∧ mZ μ 336 = 96 ∧ gR μ 332 19 = some 337 ∧ mK μ 337 = 23 ∧ mZ μ 337 = 96 ∧ gR μ 332 20 = some 338 ∧ mK μ 338 = 21 ∧ mZ μ 338 = 144 ∧ gR μ 332 21 = some 339 ∧ mK μ 339 = 21 ∧ mZ μ 339 = 144
theorem isMo.all {μ : ax_M} (h : isMo μ) : mK μ 332 = 12 ∧ gR μ 332 5 = some 333 ∧ mK μ 333 = 20 ∧ mZ μ 333 = 900 ∧ gR μ 332 16 = some 334 ∧ mK μ 334 = 21 ∧ mZ μ 334 = 96 ∧ gR μ 332 17 = some 335 ∧ mK μ 335 = 21 ∧ mZ μ 335 = 96 ∧ gR μ 332 18 = some 336 ∧ mK μ 336 = 21 ∧ mZ μ 336 = 96 ∧ gR μ 332 19 = some 337 ∧ mK μ 337 = 23 ∧ mZ μ 337 = 96 ∧ gR μ 332 20 = some 338 ∧ mK μ 338 = 21 ∧ mZ μ 338 = 144 ∧ gR μ 332 21 = some 339 ∧ mK μ 339 = 21 ∧ mZ μ 339 = 144 := h
def RepM (μ : ax_M) (N : Nat) (a : Ld) : Prop := isML μ N ∧ (∀ k, k < 7 → gI μ N k = nI (a.1 k)) ∧ (∀ t, t < nTh a → ∀ f, f < 4 → gI μ (N + 1 + f) t = nI (a.2.1 t f)) ∧
  (∀ k, k < nCh a → (∀ f, f < 3 → gI μ (N + 5 + f) k = nI (a.2.2.1 k f)) ∧ (cH a k ≤ 4 → gI μ (N + 8) k = nI (cB a k))) ∧
  (∀ h, h < nHo a → gI μ (N + 9) h = nI (hN a h) ∧ gI μ (N + 10) h = nI (hP a h) ∧ ∀ g, g < 4 → gI μ (N + 11) (4 * h + g) = nI (hW a h g)) ∧
  (∀ o, o < nOf a → gI μ (N + 12) o = nI (oM a o) ∧ gI μ (N + 13) o = bI (decide (oS a o = 1)) ∧ gI μ (N + 14) o = bI (decide (oB a o = 1)))
theorem RepM.all {μ : ax_M} {N : Nat} {a : Ld} (h : RepM μ N a) : (gI μ N 0 = nI (nMo a) ∧ gI μ N 1 = nI (nGr a) ∧ gI μ N 2 = nI (nTh a) ∧ gI μ N 3 = nI (nCh a) ∧ gI μ N 4 = nI (nTo a) ∧ gI μ N 5 = nI (nHo a) ∧ gI μ N 6 = nI (nOf a)) ∧
  (∀ t, t < nTh a → gI μ (N + 1) t = nI (tG a t) ∧ gI μ (N + 2) t = nI (a.2.1 t 1) ∧ gI μ (N + 3) t = nI (a.2.1 t 2) ∧ gI μ (N + 4) t = nI (a.2.1 t 3)) ∧
  (∀ k, k < nCh a → gI μ (N + 5) k = nI (cT a k) ∧ gI μ (N + 6) k = nI (cM a k) ∧ gI μ (N + 7) k = nI (cH a k)) ∧
  (∀ k, k < nCh a → cH a k ≤ 4 → gI μ (N + 8) k = nI (cB a k)) ∧
  (∀ h, h < nHo a → gI μ (N + 9) h = nI (hN a h) ∧ gI μ (N + 10) h = nI (hP a h)) ∧
  (∀ h g, h < nHo a → g < 4 → gI μ (N + 11) (4 * h + g) = nI (hW a h g)) ∧
  (∀ o, o < nOf a → gI μ (N + 12) o = nI (oM a o) ∧ gI μ (N + 13) o = bI (decide (oS a o = 1)) ∧ gI μ (N + 14) o = bI (decide (oB a o = 1))) := by
  obtain ⟨-, h1, h2, h3, h4, h5⟩ := h
  exact ⟨⟨h1 0 (by omega), h1 1 (by omega), h1 2 (by omega), h1 3 (by omega), h1 4 (by omega), h1 5 (by omega), h1 6 (by omega)⟩, fun t ht => ⟨h2 t ht 0 (by omega), h2 t ht 1 (by omega), h2 t ht 2 (by omega), h2 t ht 3 (by omega)⟩, fun k hk => ⟨(h3 k hk).1 0 (by omega), (h3 k hk).1 1 (by omega), (h3 k hk).1 2 (by omega)⟩, fun k hk => (h3 k hk).2, fun k hk => ⟨(h4 k hk).1, (h4 k hk).2.1⟩, fun k g hk hg => (h4 k hk).2.2 g hg, h5⟩
def MW (μ : ax_M) (N : Nat) (a : Ld) : Prop := LdOk a ∧ isMo μ ∧ gR μ 332 3 = some N ∧ RepM μ N a
theorem RepM.ml_ {μ : ax_M} {N : Nat} {a : Ld} (h : RepM μ N a) : isML μ N := h.1
theorem MW.bd {μ : ax_M} {N : Nat} {a : Ld} (h : MW μ N a) : (2 ≤ nMo a ∧ nMo a ≤ 12 ∧ nGr a ≤ 4 ∧ 1 ≤ nTh a ∧ nTh a ≤ 8 ∧ nCh a ≤ 20 ∧ nTo a ≤ nCh a ∧ 1 ≤ nHo a ∧ nHo a ≤ 3 ∧ 1 ≤ nOf a ∧ nOf a ≤ 3) ∧ 341 ≤ N := ⟨h.1.bd, h.2.2.2.1.1⟩
theorem isML.fr {P : Nat → Nat → Prop} {μ μ1 : ax_M} {N : Nat} (hl : isML μ N) (h : Fr P μ μ1) : isML μ1 N := by
  obtain ⟨n, kz, i, lo, r⟩ := μ
  obtain ⟨n1, kz1, i1, lo1, r1⟩ := μ1
  obtain ⟨-, rfl, -, rfl, -⟩ : n1 = n ∧ kz1 = kz ∧ lo1 = lo ∧ r1 = r ∧ _ := h
  exact hl
theorem isMo.fr {P : Nat → Nat → Prop} {μ μ1 : ax_M} (hl : isMo μ) (h : Fr P μ μ1) : isMo μ1 := by
  obtain ⟨n, kz, i, lo, r⟩ := μ
  obtain ⟨n1, kz1, i1, lo1, r1⟩ := μ1
  obtain ⟨-, rfl, -, rfl, -⟩ : n1 = n ∧ kz1 = kz ∧ lo1 = lo ∧ r1 = r ∧ _ := h
  exact hl
theorem RepM.fr {P : Nat → Nat → Prop} {μ μ1 : ax_M} {N : Nat} {a : Ld} (hl : RepM μ N a) (h : Fr P μ μ1) (hp : ∀ b k, N ≤ b → b < N + 18 → ¬ P b k) : RepM μ1 N a := by
  obtain ⟨h0, h1, h2, h3, h4, h5⟩ := hl
  refine ⟨h0.fr h, fun k hk => ?_, fun t ht f hf => ?_, fun k hk => ⟨fun f hf => ?_, fun hh => ?_⟩, fun k hk => ⟨?_, ?_, fun g hg => ?_⟩, fun o ho => ⟨?_, ?_, ?_⟩⟩
  · rw [h.I (hp _ _ (by omega) (by omega))]; exact h1 k hk
  · rw [h.I (hp _ _ (by omega) (by omega))]; exact h2 t ht f hf
  · rw [h.I (hp _ _ (by omega) (by omega))]; exact (h3 k hk).1 f hf
  · rw [h.I (hp _ _ (by omega) (by omega))]; exact (h3 k hk).2 hh
  · rw [h.I (hp _ _ (by omega) (by omega))]; exact (h4 k hk).1
  · rw [h.I (hp _ _ (by omega) (by omega))]; exact (h4 k hk).2.1
  · rw [h.I (hp _ _ (by omega) (by omega))]; exact (h4 k hk).2.2 g hg
  · rw [h.I (hp _ _ (by omega) (by omega))]; exact (h5 o ho).1
  · rw [h.I (hp _ _ (by omega) (by omega))]; exact (h5 o ho).2.1
  · rw [h.I (hp _ _ (by omega) (by omega))]; exact (h5 o ho).2.2
theorem MW.fr {P : Nat → Nat → Prop} {μ μ1 : ax_M} {N : Nat} {a : Ld} (h : MW μ N a) (f : Fr P μ μ1) (hp : ∀ b k, P b k → b < 341) : MW μ1 N a := by
  have hb := h.bd
  exact ⟨h.1, h.2.1.fr f, by rw [f.R]; exact h.2.2.1, h.2.2.2.fr f (fun b k h1 h2 q => by have := hp b k q; omega)⟩
/-- and its tables -/
def MT (μ : ax_M) (N : Nat) (a : Ld) : Prop := MW μ N a ∧ ∀ t m, t < nTh a → m < nMo a → gI μ 334 (12 * t + m) = nI (Sz a t m) ∧ gI μ 335 (12 * t + m) = nI (Sf a t m) ∧ gI μ 336 (12 * t + m) = nI (Pr a t m) ∧ gI μ 337 (12 * t + m) = bI (Tr a t m)
def MB (μ : ax_M) (N : Nat) (a : Ld) : Prop := MT μ N a ∧ ∀ h g m, h < nHo a → g < nGr a → m < nMo a → 0 < hW a h g → gI μ 338 (12 * (4 * h + g) + m) = enc (buy a h g m).1 ∧ gI μ 339 (12 * (4 * h + g) + m) = nI (buy a h g m).2
theorem MT.fr {P : Nat → Nat → Prop} {μ μ1 : ax_M} {N : Nat} {a : Ld} (h : MT μ N a) (f : Fr P μ μ1) (hp : ∀ b k, P b k → b < 334 ∨ b = 338 ∨ b = 339) : MT μ1 N a := by
  refine ⟨h.1.fr f (fun b k q => by have := hp b k q; omega), fun t m ht hm => ?_⟩
  rw [f.I (fun q => by have := hp _ _ q; omega), f.I (fun q => by have := hp _ _ q; omega), f.I (fun q => by have := hp _ _ q; omega), f.I (fun q => by have := hp _ _ q; omega)]
  exact h.2 t m ht hm
theorem MB.fr {P : Nat → Nat → Prop} {μ μ1 : ax_M} {N : Nat} {a : Ld} (h : MB μ N a) (f : Fr P μ μ1) (hp : ∀ b k, P b k → b < 334) : MB μ1 N a := by
  refine ⟨h.1.fr f (fun b k q => by have := hp b k q; omega), fun x y m hh hg hm h0 => ?_⟩
  rw [f.I (fun q => by have := hp _ _ q; omega), f.I (fun q => by have := hp _ _ q; omega)]
  exact h.2 x y m hh hg hm h0
theorem MT.bd {μ : ax_M} {N : Nat} {a : Ld} (h : MT μ N a) : (2 ≤ nMo a ∧ nMo a ≤ 12 ∧ nGr a ≤ 4 ∧ 1 ≤ nTh a ∧ nTh a ≤ 8 ∧ nCh a ≤ 20 ∧ nTo a ≤ nCh a ∧ 1 ≤ nHo a ∧ nHo a ≤ 3 ∧ 1 ≤ nOf a ∧ nOf a ≤ 3) ∧ 341 ≤ N := h.1.bd
theorem MB.bd {μ : ax_M} {N : Nat} {a : Ld} (h : MB μ N a) : (2 ≤ nMo a ∧ nMo a ≤ 12 ∧ nGr a ≤ 4 ∧ 1 ≤ nTh a ∧ nTh a ≤ 8 ∧ nCh a ≤ 20 ∧ nTo a ≤ nCh a ∧ 1 ≤ nHo a ∧ nHo a ≤ 3 ∧ 1 ≤ nOf a ∧ nOf a ≤ 3) ∧ 341 ≤ N := h.1.1.bd
section F1
variable {l : Launch} {G : ax_G} {μ : ax_M} {N : Nat} {a : Ld}
theorem d50 {t m : Nat} {K : Int32 → ax_M → Prop} (q : K (nI (12 * t + m)) μ) : ax_CI l G 50 [ax_i (nI t), ax_i (nI m)] μ K := by
  refine ax_Ct.of (by decide) (Nat.le_of_ble_eq_true rfl) (sg50_0 l G _ _ _ _ ?_)
  try simp (disch := omega) only [wr_s, in_nI, clN, ti_z, ti_l, true_and, and_true, kI, zI, rI, kL, zL, rL, kR, zR, nnI, nnL, nnR, iL, iR, lI, lR, exi, exl, exv, eq_self, nI_add, nI_mul, nI_sub, nI_ltI, nI_leI, nI_eq, q0, q1, q2, q3, q4, q5, q6, q10, q100, br_Tr, br_Fa, iI_s, iI_n, bI_q0, bI_q1, or_true, true_or, not_true_eq_false, not_false_eq_true, nI_l, ge64, Nat.lt_irrefl, Nat.add_sub_cancel, Nat.not_lt_zero, lN_0, lN_1e4, lN_1e6, lN_1e3, lN_add, lN_mul, lN_ltI, lN_leI, lN_eqI, lN_i, lcE, lcLe, lcLt, lN_div, q7, q12, q20, q99, q200, q999, q1e4, if_true, if_false]
  exact q
theorem d72 {h g m : Nat} {K : Int32 → ax_M → Prop} (q : K (nI (12 * (4 * h + g) + m)) μ) : ax_CI l G 72 [ax_i (nI h), ax_i (nI g), ax_i (nI m)] μ K := by
  refine ax_Ct.of (by decide) (Nat.le_of_ble_eq_true rfl) (sg72_0 l G _ _ _ _ _ ?_)
  try simp (disch := omega) only [wr_s, in_nI, clN, ti_z, ti_l, true_and, and_true, kI, zI, rI, kL, zL, rL, kR, zR, nnI, nnL, nnR, iL, iR, lI, lR, exi, exl, exv, eq_self, nI_add, nI_mul, nI_sub, nI_ltI, nI_leI, nI_eq, q0, q1, q2, q3, q4, q5, q6, q10, q100, br_Tr, br_Fa, iI_s, iI_n, bI_q0, bI_q1, or_true, true_or, not_true_eq_false, not_false_eq_true, nI_l, ge64, Nat.lt_irrefl, Nat.add_sub_cancel, Nat.not_lt_zero, lN_0, lN_1e4, lN_1e6, lN_1e3, lN_add, lN_mul, lN_ltI, lN_leI, lN_eqI, lN_i, lcE, lcLe, lcLt, lN_div, q7, q12, q20, q99, q200, q999, q1e4, if_true, if_false]
  exact q
theorem d66 {v lo hi : Int32} {K : Int32 → ax_M → Prop} (k1 : v < lo → K lo μ) (k2 : ¬ v < lo → v ≤ hi → K v μ) (k3 : ¬ v < lo → ¬ v ≤ hi → K hi μ) : ax_CI l G 66 [ax_i v, ax_i lo, ax_i hi] μ K := by
  refine ax_Ct.of (by decide) (Nat.le_of_ble_eq_true rfl) (sg66_0 l G _ _ _ _ _ ?_)
  try simp (disch := omega) only [wr_s, in_nI, clN, ti_z, ti_l, true_and, and_true, kI, zI, rI, kL, zL, rL, kR, zR, nnI, nnL, nnR, iL, iR, lI, lR, exi, exl, exv, eq_self, nI_add, nI_mul, nI_sub, nI_ltI, nI_leI, nI_eq, q0, q1, q2, q3, q4, q5, q6, q10, q100, br_Tr, br_Fa, iI_s, iI_n, bI_q0, bI_q1, or_true, true_or, not_true_eq_false, not_false_eq_true, nI_l, ge64, Nat.lt_irrefl, Nat.add_sub_cancel, Nat.not_lt_zero, lN_0, lN_1e4, lN_1e6, lN_1e3, lN_add, lN_mul, lN_ltI, lN_leI, lN_eqI, lN_i, lcE, lcLe, lcLt, lN_div, q7, q12, q20, q99, q200, q999, q1e4, if_true, if_false]
  exact ax_brc k1 (fun h => ax_brc (k2 h) (k3 h))
theorem d66a {x lo hi : Nat} {K : Int32 → ax_M → Prop} (h1 : lo ≤ x) (hx : x < 2 ^ 31) (h2 : hi < 2 ^ 31) (q : K (nI (min hi x)) μ) : ax_CI l G 66 [ax_i (nI x), ax_i (nI lo), ax_i (nI hi)] μ K := by
  refine d66 (fun h => absurd h (nI_nlt h1 hx)) (fun _ h => ?_) (fun _ h => ?_)
  · rw [nI_leI hx h2] at h
    rw [Nat.min_eq_right h] at q; exact q
  · rw [nI_leI hx h2] at h
    rw [Nat.min_eq_left (by omega)] at q; exact q
theorem d66i {x lo hi : Nat} {K : Int32 → ax_M → Prop} (h1 : lo ≤ x) (h2 : x ≤ hi) (hx : hi < 2 ^ 31) (q : K (nI x) μ) : ax_CI l G 66 [ax_i (nI x), ax_i (nI lo), ax_i (nI hi)] μ K :=
  d66a h1 (by omega) hx (by rw [Nat.min_eq_right h2]; exact q)
theorem d66s {x y lo hi : Nat} {K : Int32 → ax_M → Prop} (h1 : x ≤ hi) (hx : hi < 2 ^ 31) (hy : y < 2 ^ 31) (hl : lo ≤ hi) (q : K (nI (max lo (x - y))) μ) : ax_CI l G 66 [ax_i (nI x - nI y), ax_i (nI lo), ax_i (nI hi)] μ K := by
  have hs := nI_subI (x := x) (y := y) (by omega) hy
  refine d66 (fun h => ?_) (fun h h2 => ?_) (fun h h2 => absurd ?_ h2)
  · rw [Int32.lt_iff_toInt_lt, hs, nI_toInt (by omega)] at h
    rw [Nat.max_eq_left (by omega)] at q; exact q
  · rw [Int32.lt_iff_toInt_lt, hs, nI_toInt (by omega)] at h
    rw [Nat.max_eq_right (by omega), ← nI_sub (by omega)] at q; exact q
  · rw [Int32.le_iff_toInt_le, hs, nI_toInt (by omega)]
    omega
theorem d55 {t : Nat} {K : Int32 → ax_M → Prop} (hw : MW μ N a) (ht : t < nTh a) (q : K (bI (cmK a t (nCh a))) μ) : ax_CI l G 55 [ax_r (some 332), ax_i (nI t)] μ K := by
  have hb := hw.bd
  refine ax_Ct.of (by decide) (Nat.le_of_ble_eq_true rfl) (sg55_0 l G _ 332 _ _ ?_)
  refine up_to (P := fun k => (∀ j, j < k → (decide (cT a j = t) && decide (cH a j = 6)) = false) → (ax_Rw l G ax_h55 (ax_E G ax_h55 _) 2 [(0, ax_r (some 332)), (1, ax_i (nI t)), (2, ax_i (nI k))] [] 0 0 μ)) (nCh a) (fun hf => ?_) (fun k hk ih hf => ?_) 0 (Nat.zero_le _) (fun j hj => by omega)
  · refine sg55_2 l G _ 332 _ _ _ ?_
    try simp (disch := omega) only [hw.2.1.all, hw.2.2.1, hw.2.2.2.1.all, hw.2.2.2.all, wr_s, in_nI, clN, ti_z, ti_l, true_and, and_true, kI, zI, rI, kL, zL, rL, kR, zR, nnI, nnL, nnR, iL, iR, lI, lR, exi, exl, exv, eq_self, nI_add, nI_mul, nI_sub, nI_ltI, nI_leI, nI_eq, q0, q1, q2, q3, q4, q5, q6, q10, q100, br_Tr, br_Fa, iI_s, iI_n, bI_q0, bI_q1, or_true, true_or, not_true_eq_false, not_false_eq_true, nI_l, ge64, Nat.lt_irrefl, Nat.add_sub_cancel, Nat.not_lt_zero, lN_0, lN_1e4, lN_1e6, lN_1e3, lN_add, lN_mul, lN_ltI, lN_leI, lN_eqI, lN_i, lcE, lcLe, lcLt, lN_div, q7, q12, q20, q99, q200, q999, q1e4, if_true, if_false]
    rw [cmK_any, anyN_f hf, bI_z] at q
    exact q
  · have hch := hw.1.ch hk
    refine sg55_2 l G _ 332 _ _ _ ?_
    try simp (disch := omega) only [hw.2.1.all, hw.2.2.1, hw.2.2.2.1.all, hw.2.2.2.all, hk, wr_s, in_nI, clN, ti_z, ti_l, true_and, and_true, kI, zI, rI, kL, zL, rL, kR, zR, nnI, nnL, nnR, iL, iR, lI, lR, exi, exl, exv, eq_self, nI_add, nI_mul, nI_sub, nI_ltI, nI_leI, nI_eq, q0, q1, q2, q3, q4, q5, q6, q10, q100, br_Tr, br_Fa, iI_s, iI_n, bI_q0, bI_q1, or_true, true_or, not_true_eq_false, not_false_eq_true, nI_l, ge64, Nat.lt_irrefl, Nat.add_sub_cancel, Nat.not_lt_zero, lN_0, lN_1e4, lN_1e6, lN_1e3, lN_add, lN_mul, lN_ltI, lN_leI, lN_eqI, lN_i, lcE, lcLe, lcLt, lN_div, q7, q12, q20, q99, q200, q999, q1e4, if_true, if_false]
    refine ax_brc (fun h1 => ?_) (fun h1 => ih (lt_s hf (by simp [h1])))
    refine ax_brc (fun h2 => ?_) (fun h2 => ih (lt_s hf (by simp [h2])))
    rw [cmK_any, anyN_t hk (by simp [h1, h2]), bI_1] at q
    exact q
def prv (a : Ld) (t m : Nat) : Ts := match m with
  | 0 => stt a t 0
  | j + 1 => stt a t j
theorem apK0 (ha : LdOk a) (t : Nat) (s : Ts) : ∀ k, k ≤ nCh a → apK a t 0 k s = s
  | 0, _ => rfl
  | k + 1, h => by
    have hch := ha.ch (show k < nCh a by omega)
    unfold apK
    rw [if_neg (fun q => by omega), apK0 ha t s k (by omega)]
theorem prv_s (ha : LdOk a) (t m : Nat) : apK a t m (nCh a) (prv a t m) = stt a t m := by
  cases m with
  | zero => exact apK0 ha t _ _ (Nat.le_refl _)
  | succ j => rfl
theorem prv_in (ha : LdOk a) {t : Nat} (ht : t < nTh a) (m : Nat) : sIn (prv a t m) := by
  cases m with
  | zero => exact stt_in ha ht 0
  | succ j => exact stt_in ha ht j
def PTm (t : Nat) (b k : Nat) : Prop := (b = 334 ∨ b = 335 ∨ b = 336 ∨ b = 337) ∧ 12 * t ≤ k ∧ k < 12 * t + 12
theorem d114 {t : Nat} {K : ax_M → Prop} (hw : MW μ N a) (ht : t < nTh a) (q : ∀ μ', Fr (PTm t) μ μ' → (∀ m, m < nMo a → gI μ' 334 (12 * t + m) = nI (Sz a t m) ∧ gI μ' 335 (12 * t + m) = nI (Sf a t m) ∧ gI μ' 336 (12 * t + m) = nI (Pr a t m) ∧ gI μ' 337 (12 * t + m) = bI (Tr a t m)) → K μ') : ax_CV l G 114 [ax_r (some 332), ax_i (nI t)] μ K := by
  have hb := hw.bd
  have loop : ∀ m, m ≤ nMo a → ∀ μm, Fr (PTm t) μ μm → (∀ i, i < m → gI μm 334 (12 * t + i) = nI (Sz a t i) ∧ gI μm 335 (12 * t + i) = nI (Sf a t i) ∧ gI μm 336 (12 * t + i) = nI (Pr a t i) ∧ gI μm 337 (12 * t + i) = bI (Tr a t i)) → (ax_Rw l G ax_h114 (ax_E G ax_h114 (fun x μ' => x = none ∧ K μ')) 49 [(0, ax_r (some 332)), (1, ax_i (nI t)), (2, ax_i (nI (prv a t m).1)), (3, ax_i (nI (prv a t m).2.1)), (4, ax_i (nI (prv a t m).2.2.1)), (5, ax_i (bI (prv a t m).2.2.2)), (6, ax_i (nI m))] [] 0 0 μm) := by
    refine up_to (nMo a) (fun μm f hr => ?_) (fun m hm ih μm f hr => ?_)
    · have hw := hw.fr f (fun b k q => by have := q.1; omega)
      refine sg114_49 l G _ 332 _ _ _ _ _ _ _ ?_
      try simp (disch := omega) only [hw.2.1.all, hw.2.2.1, hw.2.2.2.1.all, hw.2.2.2.all, wr_s, in_nI, clN, ti_z, ti_l, true_and, and_true, kI, zI, rI, kL, zL, rL, kR, zR, nnI, nnL, nnR, iL, iR, lI, lR, exi, exl, exv, eq_self, nI_add, nI_mul, nI_sub, nI_ltI, nI_leI, nI_eq, q0, q1, q2, q3, q4, q5, q6, q10, q100, br_Tr, br_Fa, iI_s, iI_n, bI_q0, bI_q1, or_true, true_or, not_true_eq_false, not_false_eq_true, nI_l, ge64, Nat.lt_irrefl, Nat.add_sub_cancel, Nat.not_lt_zero, lN_0, lN_1e4, lN_1e6, lN_1e3, lN_add, lN_mul, lN_ltI, lN_leI, lN_eqI, lN_i, lcE, lcLe, lcLt, lN_div, q7, q12, q20, q99, q200, q999, q1e4, if_true, if_false]
      exact q μm f hr
    · have hw := hw.fr f (fun b k q => by have := q.1; omega)
      refine sg114_49 l G _ 332 _ _ _ _ _ _ _ ?_
      try simp (disch := omega) only [hw.2.1.all, hw.2.2.1, hw.2.2.2.1.all, hw.2.2.2.all, hm, wr_s, in_nI, clN, ti_z, ti_l, true_and, and_true, kI, zI, rI, kL, zL, rL, kR, zR, nnI, nnL, nnR, iL, iR, lI, lR, exi, exl, exv, eq_self, nI_add, nI_mul, nI_sub, nI_ltI, nI_leI, nI_eq, q0, q1, q2, q3, q4, q5, q6, q10, q100, br_Tr, br_Fa, iI_s, iI_n, bI_q0, bI_q1, or_true, true_or, not_true_eq_false, not_false_eq_true, nI_l, ge64, Nat.lt_irrefl, Nat.add_sub_cancel, Nat.not_lt_zero, lN_0, lN_1e4, lN_1e6, lN_1e3, lN_add, lN_mul, lN_ltI, lN_leI, lN_eqI, lN_i, lcE, lcLe, lcLt, lN_div, q7, q12, q20, q99, q200, q999, q1e4, if_true, if_false]
      refine up_to (P := fun k => (ax_Rw l G ax_h114 (ax_E G ax_h114 (fun x μ' => x = none ∧ K μ')) 64 [(0, ax_r (some 332)), (1, ax_i (nI t)), (2, ax_i (nI (apK a t m k (prv a t m)).1)), (3, ax_i (nI (apK a t m k (prv a t m)).2.1)), (4, ax_i (nI (apK a t m k (prv a t m)).2.2.1)), (5, ax_i (bI (apK a t m k (prv a t m)).2.2.2)), (6, ax_i (nI m)), (7, ax_i (nI k))] [] 0 0 μm)) (nCh a) ?_ (fun k hk ih' => ?_) 0 (Nat.zero_le _)
      · rw [prv_s hw.1]
        refine sg114_64 l G _ 332 _ _ _ _ _ _ _ _ ?_
        try simp (disch := omega) only [hw.2.1.all, hw.2.2.1, hw.2.2.2.1.all, hw.2.2.2.all, wr_s, in_nI, clN, ti_z, ti_l, true_and, and_true, kI, zI, rI, kL, zL, rL, kR, zR, nnI, nnL, nnR, iL, iR, lI, lR, exi, exl, exv, eq_self, nI_add, nI_mul, nI_sub, nI_ltI, nI_leI, nI_eq, q0, q1, q2, q3, q4, q5, q6, q10, q100, br_Tr, br_Fa, iI_s, iI_n, bI_q0, bI_q1, or_true, true_or, not_true_eq_false, not_false_eq_true, nI_l, ge64, Nat.lt_irrefl, Nat.add_sub_cancel, Nat.not_lt_zero, lN_0, lN_1e4, lN_1e6, lN_1e3, lN_add, lN_mul, lN_ltI, lN_leI, lN_eqI, lN_i, lcE, lcLe, lcLt, lN_div, q7, q12, q20, q99, q200, q999, q1e4, if_true, if_false]
        refine d50 ?_
        try simp (disch := omega) only [hw.2.1.all, hw.2.2.1, hw.2.2.2.1.all, hw.2.2.2.all, wr_s, in_nI, clN, ti_z, ti_l, true_and, and_true, kI, zI, rI, kL, zL, rL, kR, zR, nnI, nnL, nnR, iL, iR, lI, lR, exi, exl, exv, eq_self, nI_add, nI_mul, nI_sub, nI_ltI, nI_leI, nI_eq, q0, q1, q2, q3, q4, q5, q6, q10, q100, br_Tr, br_Fa, iI_s, iI_n, bI_q0, bI_q1, or_true, true_or, not_true_eq_false, not_false_eq_true, nI_l, ge64, Nat.lt_irrefl, Nat.add_sub_cancel, Nat.not_lt_zero, lN_0, lN_1e4, lN_1e6, lN_1e3, lN_add, lN_mul, lN_ltI, lN_leI, lN_eqI, lN_i, lcE, lcLe, lcLt, lN_div, q7, q12, q20, q99, q200, q999, q1e4, if_true, if_false]
        refine d50 ?_
        try simp (disch := omega) only [hw.2.1.all, hw.2.2.1, hw.2.2.2.1.all, hw.2.2.2.all, wr_s, in_nI, clN, ti_z, ti_l, true_and, and_true, kI, zI, rI, kL, zL, rL, kR, zR, nnI, nnL, nnR, iL, iR, lI, lR, exi, exl, exv, eq_self, nI_add, nI_mul, nI_sub, nI_ltI, nI_leI, nI_eq, q0, q1, q2, q3, q4, q5, q6, q10, q100, br_Tr, br_Fa, iI_s, iI_n, bI_q0, bI_q1, or_true, true_or, not_true_eq_false, not_false_eq_true, nI_l, ge64, Nat.lt_irrefl, Nat.add_sub_cancel, Nat.not_lt_zero, lN_0, lN_1e4, lN_1e6, lN_1e3, lN_add, lN_mul, lN_ltI, lN_leI, lN_eqI, lN_i, lcE, lcLe, lcLt, lN_div, q7, q12, q20, q99, q200, q999, q1e4, if_true, if_false]
        refine d50 ?_
        try simp (disch := omega) only [hw.2.1.all, hw.2.2.1, hw.2.2.2.1.all, hw.2.2.2.all, wr_s, in_nI, clN, ti_z, ti_l, true_and, and_true, kI, zI, rI, kL, zL, rL, kR, zR, nnI, nnL, nnR, iL, iR, lI, lR, exi, exl, exv, eq_self, nI_add, nI_mul, nI_sub, nI_ltI, nI_leI, nI_eq, q0, q1, q2, q3, q4, q5, q6, q10, q100, br_Tr, br_Fa, iI_s, iI_n, bI_q0, bI_q1, or_true, true_or, not_true_eq_false, not_false_eq_true, nI_l, ge64, Nat.lt_irrefl, Nat.add_sub_cancel, Nat.not_lt_zero, lN_0, lN_1e4, lN_1e6, lN_1e3, lN_add, lN_mul, lN_ltI, lN_leI, lN_eqI, lN_i, lcE, lcLe, lcLt, lN_div, q7, q12, q20, q99, q200, q999, q1e4, if_true, if_false]
        refine d50 ?_
        try simp (disch := omega) only [hw.2.1.all, hw.2.2.1, hw.2.2.2.1.all, hw.2.2.2.all, wr_s, in_nI, clN, ti_z, ti_l, true_and, and_true, kI, zI, rI, kL, zL, rL, kR, zR, nnI, nnL, nnR, iL, iR, lI, lR, exi, exl, exv, eq_self, nI_add, nI_mul, nI_sub, nI_ltI, nI_leI, nI_eq, q0, q1, q2, q3, q4, q5, q6, q10, q100, br_Tr, br_Fa, iI_s, iI_n, bI_q0, bI_q1, or_true, true_or, not_true_eq_false, not_false_eq_true, nI_l, ge64, Nat.lt_irrefl, Nat.add_sub_cancel, Nat.not_lt_zero, lN_0, lN_1e4, lN_1e6, lN_1e3, lN_add, lN_mul, lN_ltI, lN_leI, lN_eqI, lN_i, lcE, lcLe, lcLt, lN_div, q7, q12, q20, q99, q200, q999, q1e4, if_true, if_false]
        refine ⟨by cases (stt a t m).2.2.2; exact Or.inl rfl; exact Or.inr rfl, ?_⟩
        refine ih _ ((((f.put ⟨by omega, by omega⟩).put ⟨by omega, by omega⟩).put ⟨by omega, by omega⟩).put ⟨by omega, by omega⟩) (lt_s (fun i hi => ?_) ?_)
        · try simp (disch := omega) only [wr_s, in_nI, clN, ti_z, ti_l, true_and, and_true, kI, zI, rI, kL, zL, rL, kR, zR, nnI, nnL, nnR, iL, iR, lI, lR, exi, exl, exv, eq_self, nI_add, nI_mul, nI_sub, nI_ltI, nI_leI, nI_eq, q0, q1, q2, q3, q4, q5, q6, q10, q100, br_Tr, br_Fa, iI_s, iI_n, bI_q0, bI_q1, or_true, true_or, not_true_eq_false, not_false_eq_true, nI_l, ge64, Nat.lt_irrefl, Nat.add_sub_cancel, Nat.not_lt_zero, lN_0, lN_1e4, lN_1e6, lN_1e3, lN_add, lN_mul, lN_ltI, lN_leI, lN_eqI, lN_i, lcE, lcLe, lcLt, lN_div, q7, q12, q20, q99, q200, q999, q1e4, if_true, if_false]
          exact hr i hi
        · try simp (disch := omega) only [wr_s, in_nI, clN, ti_z, ti_l, true_and, and_true, kI, zI, rI, kL, zL, rL, kR, zR, nnI, nnL, nnR, iL, iR, lI, lR, exi, exl, exv, eq_self, nI_add, nI_mul, nI_sub, nI_ltI, nI_leI, nI_eq, q0, q1, q2, q3, q4, q5, q6, q10, q100, br_Tr, br_Fa, iI_s, iI_n, bI_q0, bI_q1, or_true, true_or, not_true_eq_false, not_false_eq_true, nI_l, ge64, Nat.lt_irrefl, Nat.add_sub_cancel, Nat.not_lt_zero, lN_0, lN_1e4, lN_1e6, lN_1e3, lN_add, lN_mul, lN_ltI, lN_leI, lN_eqI, lN_i, lcE, lcLe, lcLt, lN_div, q7, q12, q20, q99, q200, q999, q1e4, if_true, if_false]
      · have hch := hw.1.ch hk
        have hsi := apK_in (a := a) (t := t) (m := m) k (prv_in hw.1 ht m)
        refine sg114_64 l G _ 332 _ _ _ _ _ _ _ _ ?_
        try simp (disch := omega) only [hw.2.1.all, hw.2.2.1, hw.2.2.2.1.all, hw.2.2.2.all, hk, wr_s, in_nI, clN, ti_z, ti_l, true_and, and_true, kI, zI, rI, kL, zL, rL, kR, zR, nnI, nnL, nnR, iL, iR, lI, lR, exi, exl, exv, eq_self, nI_add, nI_mul, nI_sub, nI_ltI, nI_leI, nI_eq, q0, q1, q2, q3, q4, q5, q6, q10, q100, br_Tr, br_Fa, iI_s, iI_n, bI_q0, bI_q1, or_true, true_or, not_true_eq_false, not_false_eq_true, nI_l, ge64, Nat.lt_irrefl, Nat.add_sub_cancel, Nat.not_lt_zero, lN_0, lN_1e4, lN_1e6, lN_1e3, lN_add, lN_mul, lN_ltI, lN_leI, lN_eqI, lN_i, lcE, lcLe, lcLt, lN_div, q7, q12, q20, q99, q200, q999, q1e4, if_true, if_false]
        unfold apK at ih'
        refine ax_brc (fun h1 => ?_) (fun h1 => by rw [if_neg (fun q => h1 q.1)] at ih'; exact ih')
        refine ax_brc (fun h2 => ?_) (fun h2 => by rw [if_neg (fun q => h2 q.2)] at ih'; exact ih')
        rw [if_pos ⟨h1, h2⟩] at ih'
        generalize apK a t m k (prv a t m) = s at ih' hsi
        obtain ⟨s1, s2, s3⟩ := hsi
        have hz := hch.2.2.2.2
        have r01 : ∀ b : Bool, ¬ b = false → b = true := by intro b h; simpa using h
        have hx : cH a k = 0 ∨ cH a k = 1 ∨ cH a k = 2 ∨ cH a k = 3 ∨ cH a k = 4 ∨ cH a k = 5 ∨ cH a k = 6 := by omega
        rcases hx with h | h | h | h | h | h | h
        · have hz := hz (by omega)
          rw [h] at ih'
          try simp (disch := omega) only [hw.2.1.all, hw.2.2.1, hw.2.2.2.1.all, hw.2.2.2.all, h, show ¬ (0 = 1) by omega, wr_s, in_nI, clN, ti_z, ti_l, true_and, and_true, kI, zI, rI, kL, zL, rL, kR, zR, nnI, nnL, nnR, iL, iR, lI, lR, exi, exl, exv, eq_self, nI_add, nI_mul, nI_ltI, nI_leI, nI_eq, q0, q1, q2, q3, q4, q5, q6, q10, q100, br_Tr, br_Fa, iI_s, iI_n, bI_q0, bI_q1, or_true, true_or, not_true_eq_false, not_false_eq_true, nI_l, ge64, Nat.lt_irrefl, Nat.add_sub_cancel, Nat.not_lt_zero, lN_0, lN_1e4, lN_1e6, lN_1e3, lN_add, lN_mul, lN_ltI, lN_leI, lN_eqI, lN_i, lcE, lcLe, lcLt, lN_div, q7, q12, q20, q99, q200, q999, q1e4, if_true, if_false]
          refine d66a (by omega) (by omega) (by omega) ?_
          try simp (disch := omega) only [show ¬ (0 = 2) by omega, wr_s, in_nI, clN, ti_z, ti_l, true_and, and_true, kI, zI, rI, kL, zL, rL, kR, zR, nnI, nnL, nnR, iL, iR, lI, lR, exi, exl, exv, eq_self, nI_add, nI_mul, nI_ltI, nI_leI, nI_eq, q0, q1, q2, q3, q4, q5, q6, q10, q100, br_Tr, br_Fa, iI_s, iI_n, bI_q0, bI_q1, or_true, true_or, not_true_eq_false, not_false_eq_true, nI_l, ge64, Nat.lt_irrefl, Nat.add_sub_cancel, Nat.not_lt_zero, lN_0, lN_1e4, lN_1e6, lN_1e3, lN_add, lN_mul, lN_ltI, lN_leI, lN_eqI, lN_i, lcE, lcLe, lcLt, lN_div, q7, q12, q20, q99, q200, q999, q1e4, if_true, if_false]
          refine sg114_184 l G _ 332 _ _ _ _ _ _ _ _ _ _ ?_
          try simp (disch := omega) only [wr_s, in_nI, clN, ti_z, ti_l, true_and, and_true, kI, zI, rI, kL, zL, rL, kR, zR, nnI, nnL, nnR, iL, iR, lI, lR, exi, exl, exv, eq_self, nI_add, nI_mul, nI_ltI, nI_leI, nI_eq, q0, q1, q2, q3, q4, q5, q6, q10, q100, br_Tr, br_Fa, iI_s, iI_n, bI_q0, bI_q1, or_true, true_or, not_true_eq_false, not_false_eq_true, nI_l, ge64, Nat.lt_irrefl, Nat.add_sub_cancel, Nat.not_lt_zero, lN_0, lN_1e4, lN_1e6, lN_1e3, lN_add, lN_mul, lN_ltI, lN_leI, lN_eqI, lN_i, lcE, lcLe, lcLt, lN_div, q7, q12, q20, q99, q200, q999, q1e4, if_true, if_false]
          refine d66i s1.1 s1.2 (by omega) ?_
          try simp (disch := omega) only [show ¬ (0 = 3) by omega, show ¬ (0 = 4) by omega, wr_s, in_nI, clN, ti_z, ti_l, true_and, and_true, kI, zI, rI, kL, zL, rL, kR, zR, nnI, nnL, nnR, iL, iR, lI, lR, exi, exl, exv, eq_self, nI_add, nI_mul, nI_ltI, nI_leI, nI_eq, q0, q1, q2, q3, q4, q5, q6, q10, q100, br_Tr, br_Fa, iI_s, iI_n, bI_q0, bI_q1, or_true, true_or, not_true_eq_false, not_false_eq_true, nI_l, ge64, Nat.lt_irrefl, Nat.add_sub_cancel, Nat.not_lt_zero, lN_0, lN_1e4, lN_1e6, lN_1e3, lN_add, lN_mul, lN_ltI, lN_leI, lN_eqI, lN_i, lcE, lcLe, lcLt, lN_div, q7, q12, q20, q99, q200, q999, q1e4, if_true, if_false]
          refine sg114_220 l G _ 332 _ _ _ _ _ _ _ _ _ ?_
          try simp (disch := omega) only [wr_s, in_nI, clN, ti_z, ti_l, true_and, and_true, kI, zI, rI, kL, zL, rL, kR, zR, nnI, nnL, nnR, iL, iR, lI, lR, exi, exl, exv, eq_self, nI_add, nI_mul, nI_ltI, nI_leI, nI_eq, q0, q1, q2, q3, q4, q5, q6, q10, q100, br_Tr, br_Fa, iI_s, iI_n, bI_q0, bI_q1, or_true, true_or, not_true_eq_false, not_false_eq_true, nI_l, ge64, Nat.lt_irrefl, Nat.add_sub_cancel, Nat.not_lt_zero, lN_0, lN_1e4, lN_1e6, lN_1e3, lN_add, lN_mul, lN_ltI, lN_leI, lN_eqI, lN_i, lcE, lcLe, lcLt, lN_div, q7, q12, q20, q99, q200, q999, q1e4, if_true, if_false]
          refine d66i s2.1 s2.2 (by omega) ?_
          try simp (disch := omega) only [show ¬ (0 = 5) by omega, show ¬ (0 = 6) by omega, wr_s, in_nI, clN, ti_z, ti_l, true_and, and_true, kI, zI, rI, kL, zL, rL, kR, zR, nnI, nnL, nnR, iL, iR, lI, lR, exi, exl, exv, eq_self, nI_add, nI_mul, nI_ltI, nI_leI, nI_eq, q0, q1, q2, q3, q4, q5, q6, q10, q100, br_Tr, br_Fa, iI_s, iI_n, bI_q0, bI_q1, or_true, true_or, not_true_eq_false, not_false_eq_true, nI_l, ge64, Nat.lt_irrefl, Nat.add_sub_cancel, Nat.not_lt_zero, lN_0, lN_1e4, lN_1e6, lN_1e3, lN_add, lN_mul, lN_ltI, lN_leI, lN_eqI, lN_i, lcE, lcLe, lcLt, lN_div, q7, q12, q20, q99, q200, q999, q1e4, if_true, if_false]
          refine ax_brc (fun h => ?_) (fun h => ?_)
          · unfold ap1 at ih'; simp only [h] at ih'; exact ih'
          · unfold ap1 at ih'; simp only [r01 _ h] at ih'; exact ih'
        · have hz := hz (by omega)
          rw [h] at ih'
          try simp (disch := omega) only [hw.2.1.all, hw.2.2.1, hw.2.2.2.1.all, hw.2.2.2.all, h, show ¬ (1 = 0) by omega, wr_s, in_nI, clN, ti_z, ti_l, true_and, and_true, kI, zI, rI, kL, zL, rL, kR, zR, nnI, nnL, nnR, iL, iR, lI, lR, exi, exl, exv, eq_self, nI_add, nI_mul, nI_ltI, nI_leI, nI_eq, q0, q1, q2, q3, q4, q5, q6, q10, q100, br_Tr, br_Fa, iI_s, iI_n, bI_q0, bI_q1, or_true, true_or, not_true_eq_false, not_false_eq_true, nI_l, ge64, Nat.lt_irrefl, Nat.add_sub_cancel, Nat.not_lt_zero, lN_0, lN_1e4, lN_1e6, lN_1e3, lN_add, lN_mul, lN_ltI, lN_leI, lN_eqI, lN_i, lcE, lcLe, lcLt, lN_div, q7, q12, q20, q99, q200, q999, q1e4, if_true, if_false]
          refine d66s s3.2 (by omega) (by omega) (by omega) ?_
          try simp (disch := omega) only [show ¬ (1 = 2) by omega, wr_s, in_nI, clN, ti_z, ti_l, true_and, and_true, kI, zI, rI, kL, zL, rL, kR, zR, nnI, nnL, nnR, iL, iR, lI, lR, exi, exl, exv, eq_self, nI_add, nI_mul, nI_ltI, nI_leI, nI_eq, q0, q1, q2, q3, q4, q5, q6, q10, q100, br_Tr, br_Fa, iI_s, iI_n, bI_q0, bI_q1, or_true, true_or, not_true_eq_false, not_false_eq_true, nI_l, ge64, Nat.lt_irrefl, Nat.add_sub_cancel, Nat.not_lt_zero, lN_0, lN_1e4, lN_1e6, lN_1e3, lN_add, lN_mul, lN_ltI, lN_leI, lN_eqI, lN_i, lcE, lcLe, lcLt, lN_div, q7, q12, q20, q99, q200, q999, q1e4, if_true, if_false]
          refine sg114_184 l G _ 332 _ _ _ _ _ _ _ _ _ _ ?_
          try simp (disch := omega) only [wr_s, in_nI, clN, ti_z, ti_l, true_and, and_true, kI, zI, rI, kL, zL, rL, kR, zR, nnI, nnL, nnR, iL, iR, lI, lR, exi, exl, exv, eq_self, nI_add, nI_mul, nI_ltI, nI_leI, nI_eq, q0, q1, q2, q3, q4, q5, q6, q10, q100, br_Tr, br_Fa, iI_s, iI_n, bI_q0, bI_q1, or_true, true_or, not_true_eq_false, not_false_eq_true, nI_l, ge64, Nat.lt_irrefl, Nat.add_sub_cancel, Nat.not_lt_zero, lN_0, lN_1e4, lN_1e6, lN_1e3, lN_add, lN_mul, lN_ltI, lN_leI, lN_eqI, lN_i, lcE, lcLe, lcLt, lN_div, q7, q12, q20, q99, q200, q999, q1e4, if_true, if_false]
          refine d66i s1.1 s1.2 (by omega) ?_
          try simp (disch := omega) only [show ¬ (1 = 3) by omega, show ¬ (1 = 4) by omega, wr_s, in_nI, clN, ti_z, ti_l, true_and, and_true, kI, zI, rI, kL, zL, rL, kR, zR, nnI, nnL, nnR, iL, iR, lI, lR, exi, exl, exv, eq_self, nI_add, nI_mul, nI_ltI, nI_leI, nI_eq, q0, q1, q2, q3, q4, q5, q6, q10, q100, br_Tr, br_Fa, iI_s, iI_n, bI_q0, bI_q1, or_true, true_or, not_true_eq_false, not_false_eq_true, nI_l, ge64, Nat.lt_irrefl, Nat.add_sub_cancel, Nat.not_lt_zero, lN_0, lN_1e4, lN_1e6, lN_1e3, lN_add, lN_mul, lN_ltI, lN_leI, lN_eqI, lN_i, lcE, lcLe, lcLt, lN_div, q7, q12, q20, q99, q200, q999, q1e4, if_true, if_false]
          refine sg114_220 l G _ 332 _ _ _ _ _ _ _ _ _ ?_
          try simp (disch := omega) only [wr_s, in_nI, clN, ti_z, ti_l, true_and, and_true, kI, zI, rI, kL, zL, rL, kR, zR, nnI, nnL, nnR, iL, iR, lI, lR, exi, exl, exv, eq_self, nI_add, nI_mul, nI_ltI, nI_leI, nI_eq, q0, q1, q2, q3, q4, q5, q6, q10, q100, br_Tr, br_Fa, iI_s, iI_n, bI_q0, bI_q1, or_true, true_or, not_true_eq_false, not_false_eq_true, nI_l, ge64, Nat.lt_irrefl, Nat.add_sub_cancel, Nat.not_lt_zero, lN_0, lN_1e4, lN_1e6, lN_1e3, lN_add, lN_mul, lN_ltI, lN_leI, lN_eqI, lN_i, lcE, lcLe, lcLt, lN_div, q7, q12, q20, q99, q200, q999, q1e4, if_true, if_false]
          refine d66i s2.1 s2.2 (by omega) ?_
          try simp (disch := omega) only [show ¬ (1 = 5) by omega, show ¬ (1 = 6) by omega, wr_s, in_nI, clN, ti_z, ti_l, true_and, and_true, kI, zI, rI, kL, zL, rL, kR, zR, nnI, nnL, nnR, iL, iR, lI, lR, exi, exl, exv, eq_self, nI_add, nI_mul, nI_ltI, nI_leI, nI_eq, q0, q1, q2, q3, q4, q5, q6, q10, q100, br_Tr, br_Fa, iI_s, iI_n, bI_q0, bI_q1, or_true, true_or, not_true_eq_false, not_false_eq_true, nI_l, ge64, Nat.lt_irrefl, Nat.add_sub_cancel, Nat.not_lt_zero, lN_0, lN_1e4, lN_1e6, lN_1e3, lN_add, lN_mul, lN_ltI, lN_leI, lN_eqI, lN_i, lcE, lcLe, lcLt, lN_div, q7, q12, q20, q99, q200, q999, q1e4, if_true, if_false]
          refine ax_brc (fun h => ?_) (fun h => ?_)
          · unfold ap1 at ih'; simp only [h] at ih'; exact ih'
          · unfold ap1 at ih'; simp only [r01 _ h] at ih'; exact ih'
        · have hz := hz (by omega)
          rw [h] at ih'
          try simp (disch := omega) only [hw.2.1.all, hw.2.2.1, hw.2.2.2.1.all, hw.2.2.2.all, h, show ¬ (2 = 0) by omega, show ¬ (2 = 1) by omega, wr_s, in_nI, clN, ti_z, ti_l, true_and, and_true, kI, zI, rI, kL, zL, rL, kR, zR, nnI, nnL, nnR, iL, iR, lI, lR, exi, exl, exv, eq_self, nI_add, nI_mul, nI_ltI, nI_leI, nI_eq, q0, q1, q2, q3, q4, q5, q6, q10, q100, br_Tr, br_Fa, iI_s, iI_n, bI_q0, bI_q1, or_true, true_or, not_true_eq_false, not_false_eq_true, nI_l, ge64, Nat.lt_irrefl, Nat.add_sub_cancel, Nat.not_lt_zero, lN_0, lN_1e4, lN_1e6, lN_1e3, lN_add, lN_mul, lN_ltI, lN_leI, lN_eqI, lN_i, lcE, lcLe, lcLt, lN_div, q7, q12, q20, q99, q200, q999, q1e4, if_true, if_false]
          refine d66i s3.1 s3.2 (by omega) ?_
          try simp (disch := omega) only [wr_s, in_nI, clN, ti_z, ti_l, true_and, and_true, kI, zI, rI, kL, zL, rL, kR, zR, nnI, nnL, nnR, iL, iR, lI, lR, exi, exl, exv, eq_self, nI_add, nI_mul, nI_ltI, nI_leI, nI_eq, q0, q1, q2, q3, q4, q5, q6, q10, q100, br_Tr, br_Fa, iI_s, iI_n, bI_q0, bI_q1, or_true, true_or, not_true_eq_false, not_false_eq_true, nI_l, ge64, Nat.lt_irrefl, Nat.add_sub_cancel, Nat.not_lt_zero, lN_0, lN_1e4, lN_1e6, lN_1e3, lN_add, lN_mul, lN_ltI, lN_leI, lN_eqI, lN_i, lcE, lcLe, lcLt, lN_div, q7, q12, q20, q99, q200, q999, q1e4, if_true, if_false]
          refine sg114_184 l G _ 332 _ _ _ _ _ _ _ _ _ _ ?_
          try simp (disch := omega) only [wr_s, in_nI, clN, ti_z, ti_l, true_and, and_true, kI, zI, rI, kL, zL, rL, kR, zR, nnI, nnL, nnR, iL, iR, lI, lR, exi, exl, exv, eq_self, nI_add, nI_mul, nI_ltI, nI_leI, nI_eq, q0, q1, q2, q3, q4, q5, q6, q10, q100, br_Tr, br_Fa, iI_s, iI_n, bI_q0, bI_q1, or_true, true_or, not_true_eq_false, not_false_eq_true, nI_l, ge64, Nat.lt_irrefl, Nat.add_sub_cancel, Nat.not_lt_zero, lN_0, lN_1e4, lN_1e6, lN_1e3, lN_add, lN_mul, lN_ltI, lN_leI, lN_eqI, lN_i, lcE, lcLe, lcLt, lN_div, q7, q12, q20, q99, q200, q999, q1e4, if_true, if_false]
          refine d66s s1.2 (by omega) (by omega) (by omega) ?_
          try simp (disch := omega) only [show ¬ (2 = 3) by omega, show ¬ (2 = 4) by omega, wr_s, in_nI, clN, ti_z, ti_l, true_and, and_true, kI, zI, rI, kL, zL, rL, kR, zR, nnI, nnL, nnR, iL, iR, lI, lR, exi, exl, exv, eq_self, nI_add, nI_mul, nI_ltI, nI_leI, nI_eq, q0, q1, q2, q3, q4, q5, q6, q10, q100, br_Tr, br_Fa, iI_s, iI_n, bI_q0, bI_q1, or_true, true_or, not_true_eq_false, not_false_eq_true, nI_l, ge64, Nat.lt_irrefl, Nat.add_sub_cancel, Nat.not_lt_zero, lN_0, lN_1e4, lN_1e6, lN_1e3, lN_add, lN_mul, lN_ltI, lN_leI, lN_eqI, lN_i, lcE, lcLe, lcLt, lN_div, q7, q12, q20, q99, q200, q999, q1e4, if_true, if_false]
          refine sg114_220 l G _ 332 _ _ _ _ _ _ _ _ _ ?_
          try simp (disch := omega) only [wr_s, in_nI, clN, ti_z, ti_l, true_and, and_true, kI, zI, rI, kL, zL, rL, kR, zR, nnI, nnL, nnR, iL, iR, lI, lR, exi, exl, exv, eq_self, nI_add, nI_mul, nI_ltI, nI_leI, nI_eq, q0, q1, q2, q3, q4, q5, q6, q10, q100, br_Tr, br_Fa, iI_s, iI_n, bI_q0, bI_q1, or_true, true_or, not_true_eq_false, not_false_eq_true, nI_l, ge64, Nat.lt_irrefl, Nat.add_sub_cancel, Nat.not_lt_zero, lN_0, lN_1e4, lN_1e6, lN_1e3, lN_add, lN_mul, lN_ltI, lN_leI, lN_eqI, lN_i, lcE, lcLe, lcLt, lN_div, q7, q12, q20, q99, q200, q999, q1e4, if_true, if_false]
          refine d66i s2.1 s2.2 (by omega) ?_
          try simp (disch := omega) only [show ¬ (2 = 5) by omega, show ¬ (2 = 6) by omega, wr_s, in_nI, clN, ti_z, ti_l, true_and, and_true, kI, zI, rI, kL, zL, rL, kR, zR, nnI, nnL, nnR, iL, iR, lI, lR, exi, exl, exv, eq_self, nI_add, nI_mul, nI_ltI, nI_leI, nI_eq, q0, q1, q2, q3, q4, q5, q6, q10, q100, br_Tr, br_Fa, iI_s, iI_n, bI_q0, bI_q1, or_true, true_or, not_true_eq_false, not_false_eq_true, nI_l, ge64, Nat.lt_irrefl, Nat.add_sub_cancel, Nat.not_lt_zero, lN_0, lN_1e4, lN_1e6, lN_1e3, lN_add, lN_mul, lN_ltI, lN_leI, lN_eqI, lN_i, lcE, lcLe, lcLt, lN_div, q7, q12, q20, q99, q200, q999, q1e4, if_true, if_false]
          refine ax_brc (fun h => ?_) (fun h => ?_)
          · unfold ap1 at ih'; simp only [h] at ih'; exact ih'
          · unfold ap1 at ih'; simp only [r01 _ h] at ih'; exact ih'
        · have hz := hz (by omega)
          rw [h] at ih'
          try simp (disch := omega) only [hw.2.1.all, hw.2.2.1, hw.2.2.2.1.all, hw.2.2.2.all, h, show ¬ (3 = 0) by omega, show ¬ (3 = 1) by omega, wr_s, in_nI, clN, ti_z, ti_l, true_and, and_true, kI, zI, rI, kL, zL, rL, kR, zR, nnI, nnL, nnR, iL, iR, lI, lR, exi, exl, exv, eq_self, nI_add, nI_mul, nI_ltI, nI_leI, nI_eq, q0, q1, q2, q3, q4, q5, q6, q10, q100, br_Tr, br_Fa, iI_s, iI_n, bI_q0, bI_q1, or_true, true_or, not_true_eq_false, not_false_eq_true, nI_l, ge64, Nat.lt_irrefl, Nat.add_sub_cancel, Nat.not_lt_zero, lN_0, lN_1e4, lN_1e6, lN_1e3, lN_add, lN_mul, lN_ltI, lN_leI, lN_eqI, lN_i, lcE, lcLe, lcLt, lN_div, q7, q12, q20, q99, q200, q999, q1e4, if_true, if_false]
          refine d66i s3.1 s3.2 (by omega) ?_
          try simp (disch := omega) only [show ¬ (3 = 2) by omega, wr_s, in_nI, clN, ti_z, ti_l, true_and, and_true, kI, zI, rI, kL, zL, rL, kR, zR, nnI, nnL, nnR, iL, iR, lI, lR, exi, exl, exv, eq_self, nI_add, nI_mul, nI_ltI, nI_leI, nI_eq, q0, q1, q2, q3, q4, q5, q6, q10, q100, br_Tr, br_Fa, iI_s, iI_n, bI_q0, bI_q1, or_true, true_or, not_true_eq_false, not_false_eq_true, nI_l, ge64, Nat.lt_irrefl, Nat.add_sub_cancel, Nat.not_lt_zero, lN_0, lN_1e4, lN_1e6, lN_1e3, lN_add, lN_mul, lN_ltI, lN_leI, lN_eqI, lN_i, lcE, lcLe, lcLt, lN_div, q7, q12, q20, q99, q200, q999, q1e4, if_true, if_false]
          refine sg114_184 l G _ 332 _ _ _ _ _ _ _ _ _ _ ?_
          try simp (disch := omega) only [wr_s, in_nI, clN, ti_z, ti_l, true_and, and_true, kI, zI, rI, kL, zL, rL, kR, zR, nnI, nnL, nnR, iL, iR, lI, lR, exi, exl, exv, eq_self, nI_add, nI_mul, nI_ltI, nI_leI, nI_eq, q0, q1, q2, q3, q4, q5, q6, q10, q100, br_Tr, br_Fa, iI_s, iI_n, bI_q0, bI_q1, or_true, true_or, not_true_eq_false, not_false_eq_true, nI_l, ge64, Nat.lt_irrefl, Nat.add_sub_cancel, Nat.not_lt_zero, lN_0, lN_1e4, lN_1e6, lN_1e3, lN_add, lN_mul, lN_ltI, lN_leI, lN_eqI, lN_i, lcE, lcLe, lcLt, lN_div, q7, q12, q20, q99, q200, q999, q1e4, if_true, if_false]
          refine d66i s1.1 s1.2 (by omega) ?_
          try simp (disch := omega) only [show ¬ (3 = 4) by omega, wr_s, in_nI, clN, ti_z, ti_l, true_and, and_true, kI, zI, rI, kL, zL, rL, kR, zR, nnI, nnL, nnR, iL, iR, lI, lR, exi, exl, exv, eq_self, nI_add, nI_mul, nI_ltI, nI_leI, nI_eq, q0, q1, q2, q3, q4, q5, q6, q10, q100, br_Tr, br_Fa, iI_s, iI_n, bI_q0, bI_q1, or_true, true_or, not_true_eq_false, not_false_eq_true, nI_l, ge64, Nat.lt_irrefl, Nat.add_sub_cancel, Nat.not_lt_zero, lN_0, lN_1e4, lN_1e6, lN_1e3, lN_add, lN_mul, lN_ltI, lN_leI, lN_eqI, lN_i, lcE, lcLe, lcLt, lN_div, q7, q12, q20, q99, q200, q999, q1e4, if_true, if_false]
          refine sg114_220 l G _ 332 _ _ _ _ _ _ _ _ _ ?_
          try simp (disch := omega) only [wr_s, in_nI, clN, ti_z, ti_l, true_and, and_true, kI, zI, rI, kL, zL, rL, kR, zR, nnI, nnL, nnR, iL, iR, lI, lR, exi, exl, exv, eq_self, nI_add, nI_mul, nI_ltI, nI_leI, nI_eq, q0, q1, q2, q3, q4, q5, q6, q10, q100, br_Tr, br_Fa, iI_s, iI_n, bI_q0, bI_q1, or_true, true_or, not_true_eq_false, not_false_eq_true, nI_l, ge64, Nat.lt_irrefl, Nat.add_sub_cancel, Nat.not_lt_zero, lN_0, lN_1e4, lN_1e6, lN_1e3, lN_add, lN_mul, lN_ltI, lN_leI, lN_eqI, lN_i, lcE, lcLe, lcLt, lN_div, q7, q12, q20, q99, q200, q999, q1e4, if_true, if_false]
          refine d66s s2.2 (by omega) (by omega) (by omega) ?_
          try simp (disch := omega) only [show ¬ (3 = 5) by omega, show ¬ (3 = 6) by omega, wr_s, in_nI, clN, ti_z, ti_l, true_and, and_true, kI, zI, rI, kL, zL, rL, kR, zR, nnI, nnL, nnR, iL, iR, lI, lR, exi, exl, exv, eq_self, nI_add, nI_mul, nI_ltI, nI_leI, nI_eq, q0, q1, q2, q3, q4, q5, q6, q10, q100, br_Tr, br_Fa, iI_s, iI_n, bI_q0, bI_q1, or_true, true_or, not_true_eq_false, not_false_eq_true, nI_l, ge64, Nat.lt_irrefl, Nat.add_sub_cancel, Nat.not_lt_zero, lN_0, lN_1e4, lN_1e6, lN_1e3, lN_add, lN_mul, lN_ltI, lN_leI, lN_eqI, lN_i, lcE, lcLe, lcLt, lN_div, q7, q12, q20, q99, q200, q999, q1e4, if_true, if_false]
          refine ax_brc (fun h => ?_) (fun h => ?_)
          · unfold ap1 at ih'; simp only [h] at ih'; exact ih'
          · unfold ap1 at ih'; simp only [r01 _ h] at ih'; exact ih'
        · have hz := hz (by omega)
          rw [h] at ih'
          try simp (disch := omega) only [hw.2.1.all, hw.2.2.1, hw.2.2.2.1.all, hw.2.2.2.all, h, show ¬ (4 = 0) by omega, show ¬ (4 = 1) by omega, wr_s, in_nI, clN, ti_z, ti_l, true_and, and_true, kI, zI, rI, kL, zL, rL, kR, zR, nnI, nnL, nnR, iL, iR, lI, lR, exi, exl, exv, eq_self, nI_add, nI_mul, nI_ltI, nI_leI, nI_eq, q0, q1, q2, q3, q4, q5, q6, q10, q100, br_Tr, br_Fa, iI_s, iI_n, bI_q0, bI_q1, or_true, true_or, not_true_eq_false, not_false_eq_true, nI_l, ge64, Nat.lt_irrefl, Nat.add_sub_cancel, Nat.not_lt_zero, lN_0, lN_1e4, lN_1e6, lN_1e3, lN_add, lN_mul, lN_ltI, lN_leI, lN_eqI, lN_i, lcE, lcLe, lcLt, lN_div, q7, q12, q20, q99, q200, q999, q1e4, if_true, if_false]
          refine d66i s3.1 s3.2 (by omega) ?_
          try simp (disch := omega) only [show ¬ (4 = 2) by omega, wr_s, in_nI, clN, ti_z, ti_l, true_and, and_true, kI, zI, rI, kL, zL, rL, kR, zR, nnI, nnL, nnR, iL, iR, lI, lR, exi, exl, exv, eq_self, nI_add, nI_mul, nI_ltI, nI_leI, nI_eq, q0, q1, q2, q3, q4, q5, q6, q10, q100, br_Tr, br_Fa, iI_s, iI_n, bI_q0, bI_q1, or_true, true_or, not_true_eq_false, not_false_eq_true, nI_l, ge64, Nat.lt_irrefl, Nat.add_sub_cancel, Nat.not_lt_zero, lN_0, lN_1e4, lN_1e6, lN_1e3, lN_add, lN_mul, lN_ltI, lN_leI, lN_eqI, lN_i, lcE, lcLe, lcLt, lN_div, q7, q12, q20, q99, q200, q999, q1e4, if_true, if_false]
          refine sg114_184 l G _ 332 _ _ _ _ _ _ _ _ _ _ ?_
          try simp (disch := omega) only [wr_s, in_nI, clN, ti_z, ti_l, true_and, and_true, kI, zI, rI, kL, zL, rL, kR, zR, nnI, nnL, nnR, iL, iR, lI, lR, exi, exl, exv, eq_self, nI_add, nI_mul, nI_ltI, nI_leI, nI_eq, q0, q1, q2, q3, q4, q5, q6, q10, q100, br_Tr, br_Fa, iI_s, iI_n, bI_q0, bI_q1, or_true, true_or, not_true_eq_false, not_false_eq_true, nI_l, ge64, Nat.lt_irrefl, Nat.add_sub_cancel, Nat.not_lt_zero, lN_0, lN_1e4, lN_1e6, lN_1e3, lN_add, lN_mul, lN_ltI, lN_leI, lN_eqI, lN_i, lcE, lcLe, lcLt, lN_div, q7, q12, q20, q99, q200, q999, q1e4, if_true, if_false]
          refine d66i s1.1 s1.2 (by omega) ?_
          try simp (disch := omega) only [show ¬ (4 = 3) by omega, wr_s, in_nI, clN, ti_z, ti_l, true_and, and_true, kI, zI, rI, kL, zL, rL, kR, zR, nnI, nnL, nnR, iL, iR, lI, lR, exi, exl, exv, eq_self, nI_add, nI_mul, nI_ltI, nI_leI, nI_eq, q0, q1, q2, q3, q4, q5, q6, q10, q100, br_Tr, br_Fa, iI_s, iI_n, bI_q0, bI_q1, or_true, true_or, not_true_eq_false, not_false_eq_true, nI_l, ge64, Nat.lt_irrefl, Nat.add_sub_cancel, Nat.not_lt_zero, lN_0, lN_1e4, lN_1e6, lN_1e3, lN_add, lN_mul, lN_ltI, lN_leI, lN_eqI, lN_i, lcE, lcLe, lcLt, lN_div, q7, q12, q20, q99, q200, q999, q1e4, if_true, if_false]
          refine sg114_220 l G _ 332 _ _ _ _ _ _ _ _ _ ?_
          try simp (disch := omega) only [wr_s, in_nI, clN, ti_z, ti_l, true_and, and_true, kI, zI, rI, kL, zL, rL, kR, zR, nnI, nnL, nnR, iL, iR, lI, lR, exi, exl, exv, eq_self, nI_add, nI_mul, nI_ltI, nI_leI, nI_eq, q0, q1, q2, q3, q4, q5, q6, q10, q100, br_Tr, br_Fa, iI_s, iI_n, bI_q0, bI_q1, or_true, true_or, not_true_eq_false, not_false_eq_true, nI_l, ge64, Nat.lt_irrefl, Nat.add_sub_cancel, Nat.not_lt_zero, lN_0, lN_1e4, lN_1e6, lN_1e3, lN_add, lN_mul, lN_ltI, lN_leI, lN_eqI, lN_i, lcE, lcLe, lcLt, lN_div, q7, q12, q20, q99, q200, q999, q1e4, if_true, if_false]
          refine d66a (by omega) (by omega) (by omega) ?_
          try simp (disch := omega) only [show ¬ (4 = 5) by omega, show ¬ (4 = 6) by omega, wr_s, in_nI, clN, ti_z, ti_l, true_and, and_true, kI, zI, rI, kL, zL, rL, kR, zR, nnI, nnL, nnR, iL, iR, lI, lR, exi, exl, exv, eq_self, nI_add, nI_mul, nI_ltI, nI_leI, nI_eq, q0, q1, q2, q3, q4, q5, q6, q10, q100, br_Tr, br_Fa, iI_s, iI_n, bI_q0, bI_q1, or_true, true_or, not_true_eq_false, not_false_eq_true, nI_l, ge64, Nat.lt_irrefl, Nat.add_sub_cancel, Nat.not_lt_zero, lN_0, lN_1e4, lN_1e6, lN_1e3, lN_add, lN_mul, lN_ltI, lN_leI, lN_eqI, lN_i, lcE, lcLe, lcLt, lN_div, q7, q12, q20, q99, q200, q999, q1e4, if_true, if_false]
          refine ax_brc (fun h => ?_) (fun h => ?_)
          · unfold ap1 at ih'; simp only [h] at ih'; exact ih'
          · unfold ap1 at ih'; simp only [r01 _ h] at ih'; exact ih'
        · rw [h] at ih'
          try simp (disch := omega) only [hw.2.1.all, hw.2.2.1, hw.2.2.2.1.all, hw.2.2.2.all, h, show ¬ (5 = 0) by omega, show ¬ (5 = 1) by omega, wr_s, in_nI, clN, ti_z, ti_l, true_and, and_true, kI, zI, rI, kL, zL, rL, kR, zR, nnI, nnL, nnR, iL, iR, lI, lR, exi, exl, exv, eq_self, nI_add, nI_mul, nI_ltI, nI_leI, nI_eq, q0, q1, q2, q3, q4, q5, q6, q10, q100, br_Tr, br_Fa, iI_s, iI_n, bI_q0, bI_q1, or_true, true_or, not_true_eq_false, not_false_eq_true, nI_l, ge64, Nat.lt_irrefl, Nat.add_sub_cancel, Nat.not_lt_zero, lN_0, lN_1e4, lN_1e6, lN_1e3, lN_add, lN_mul, lN_ltI, lN_leI, lN_eqI, lN_i, lcE, lcLe, lcLt, lN_div, q7, q12, q20, q99, q200, q999, q1e4, if_true, if_false]
          refine d66i s3.1 s3.2 (by omega) ?_
          try simp (disch := omega) only [show ¬ (5 = 2) by omega, wr_s, in_nI, clN, ti_z, ti_l, true_and, and_true, kI, zI, rI, kL, zL, rL, kR, zR, nnI, nnL, nnR, iL, iR, lI, lR, exi, exl, exv, eq_self, nI_add, nI_mul, nI_ltI, nI_leI, nI_eq, q0, q1, q2, q3, q4, q5, q6, q10, q100, br_Tr, br_Fa, iI_s, iI_n, bI_q0, bI_q1, or_true, true_or, not_true_eq_false, not_false_eq_true, nI_l, ge64, Nat.lt_irrefl, Nat.add_sub_cancel, Nat.not_lt_zero, lN_0, lN_1e4, lN_1e6, lN_1e3, lN_add, lN_mul, lN_ltI, lN_leI, lN_eqI, lN_i, lcE, lcLe, lcLt, lN_div, q7, q12, q20, q99, q200, q999, q1e4, if_true, if_false]
          refine sg114_184 l G _ 332 _ _ _ _ _ _ _ _ _ _ ?_
          try simp (disch := omega) only [wr_s, in_nI, clN, ti_z, ti_l, true_and, and_true, kI, zI, rI, kL, zL, rL, kR, zR, nnI, nnL, nnR, iL, iR, lI, lR, exi, exl, exv, eq_self, nI_add, nI_mul, nI_ltI, nI_leI, nI_eq, q0, q1, q2, q3, q4, q5, q6, q10, q100, br_Tr, br_Fa, iI_s, iI_n, bI_q0, bI_q1, or_true, true_or, not_true_eq_false, not_false_eq_true, nI_l, ge64, Nat.lt_irrefl, Nat.add_sub_cancel, Nat.not_lt_zero, lN_0, lN_1e4, lN_1e6, lN_1e3, lN_add, lN_mul, lN_ltI, lN_leI, lN_eqI, lN_i, lcE, lcLe, lcLt, lN_div, q7, q12, q20, q99, q200, q999, q1e4, if_true, if_false]
          refine d66i s1.1 s1.2 (by omega) ?_
          try simp (disch := omega) only [show ¬ (5 = 3) by omega, show ¬ (5 = 4) by omega, wr_s, in_nI, clN, ti_z, ti_l, true_and, and_true, kI, zI, rI, kL, zL, rL, kR, zR, nnI, nnL, nnR, iL, iR, lI, lR, exi, exl, exv, eq_self, nI_add, nI_mul, nI_ltI, nI_leI, nI_eq, q0, q1, q2, q3, q4, q5, q6, q10, q100, br_Tr, br_Fa, iI_s, iI_n, bI_q0, bI_q1, or_true, true_or, not_true_eq_false, not_false_eq_true, nI_l, ge64, Nat.lt_irrefl, Nat.add_sub_cancel, Nat.not_lt_zero, lN_0, lN_1e4, lN_1e6, lN_1e3, lN_add, lN_mul, lN_ltI, lN_leI, lN_eqI, lN_i, lcE, lcLe, lcLt, lN_div, q7, q12, q20, q99, q200, q999, q1e4, if_true, if_false]
          refine sg114_220 l G _ 332 _ _ _ _ _ _ _ _ _ ?_
          try simp (disch := omega) only [wr_s, in_nI, clN, ti_z, ti_l, true_and, and_true, kI, zI, rI, kL, zL, rL, kR, zR, nnI, nnL, nnR, iL, iR, lI, lR, exi, exl, exv, eq_self, nI_add, nI_mul, nI_ltI, nI_leI, nI_eq, q0, q1, q2, q3, q4, q5, q6, q10, q100, br_Tr, br_Fa, iI_s, iI_n, bI_q0, bI_q1, or_true, true_or, not_true_eq_false, not_false_eq_true, nI_l, ge64, Nat.lt_irrefl, Nat.add_sub_cancel, Nat.not_lt_zero, lN_0, lN_1e4, lN_1e6, lN_1e3, lN_add, lN_mul, lN_ltI, lN_leI, lN_eqI, lN_i, lcE, lcLe, lcLt, lN_div, q7, q12, q20, q99, q200, q999, q1e4, if_true, if_false]
          refine d66i s2.1 s2.2 (by omega) ?_
          try simp (disch := omega) only [show ¬ (5 = 6) by omega, wr_s, in_nI, clN, ti_z, ti_l, true_and, and_true, kI, zI, rI, kL, zL, rL, kR, zR, nnI, nnL, nnR, iL, iR, lI, lR, exi, exl, exv, eq_self, nI_add, nI_mul, nI_ltI, nI_leI, nI_eq, q0, q1, q2, q3, q4, q5, q6, q10, q100, br_Tr, br_Fa, iI_s, iI_n, bI_q0, bI_q1, or_true, true_or, not_true_eq_false, not_false_eq_true, nI_l, ge64, Nat.lt_irrefl, Nat.add_sub_cancel, Nat.not_lt_zero, lN_0, lN_1e4, lN_1e6, lN_1e3, lN_add, lN_mul, lN_ltI, lN_leI, lN_eqI, lN_i, lcE, lcLe, lcLt, lN_div, q7, q12, q20, q99, q200, q999, q1e4, if_true, if_false]
          exact ih'
        · rw [h] at ih'
          try simp (disch := omega) only [hw.2.1.all, hw.2.2.1, hw.2.2.2.1.all, hw.2.2.2.all, h, show ¬ (6 = 0) by omega, show ¬ (6 = 1) by omega, wr_s, in_nI, clN, ti_z, ti_l, true_and, and_true, kI, zI, rI, kL, zL, rL, kR, zR, nnI, nnL, nnR, iL, iR, lI, lR, exi, exl, exv, eq_self, nI_add, nI_mul, nI_ltI, nI_leI, nI_eq, q0, q1, q2, q3, q4, q5, q6, q10, q100, br_Tr, br_Fa, iI_s, iI_n, bI_q0, bI_q1, or_true, true_or, not_true_eq_false, not_false_eq_true, nI_l, ge64, Nat.lt_irrefl, Nat.add_sub_cancel, Nat.not_lt_zero, lN_0, lN_1e4, lN_1e6, lN_1e3, lN_add, lN_mul, lN_ltI, lN_leI, lN_eqI, lN_i, lcE, lcLe, lcLt, lN_div, q7, q12, q20, q99, q200, q999, q1e4, if_true, if_false]
          refine d66i s3.1 s3.2 (by omega) ?_
          try simp (disch := omega) only [show ¬ (6 = 2) by omega, wr_s, in_nI, clN, ti_z, ti_l, true_and, and_true, kI, zI, rI, kL, zL, rL, kR, zR, nnI, nnL, nnR, iL, iR, lI, lR, exi, exl, exv, eq_self, nI_add, nI_mul, nI_ltI, nI_leI, nI_eq, q0, q1, q2, q3, q4, q5, q6, q10, q100, br_Tr, br_Fa, iI_s, iI_n, bI_q0, bI_q1, or_true, true_or, not_true_eq_false, not_false_eq_true, nI_l, ge64, Nat.lt_irrefl, Nat.add_sub_cancel, Nat.not_lt_zero, lN_0, lN_1e4, lN_1e6, lN_1e3, lN_add, lN_mul, lN_ltI, lN_leI, lN_eqI, lN_i, lcE, lcLe, lcLt, lN_div, q7, q12, q20, q99, q200, q999, q1e4, if_true, if_false]
          refine sg114_184 l G _ 332 _ _ _ _ _ _ _ _ _ _ ?_
          try simp (disch := omega) only [wr_s, in_nI, clN, ti_z, ti_l, true_and, and_true, kI, zI, rI, kL, zL, rL, kR, zR, nnI, nnL, nnR, iL, iR, lI, lR, exi, exl, exv, eq_self, nI_add, nI_mul, nI_ltI, nI_leI, nI_eq, q0, q1, q2, q3, q4, q5, q6, q10, q100, br_Tr, br_Fa, iI_s, iI_n, bI_q0, bI_q1, or_true, true_or, not_true_eq_false, not_false_eq_true, nI_l, ge64, Nat.lt_irrefl, Nat.add_sub_cancel, Nat.not_lt_zero, lN_0, lN_1e4, lN_1e6, lN_1e3, lN_add, lN_mul, lN_ltI, lN_leI, lN_eqI, lN_i, lcE, lcLe, lcLt, lN_div, q7, q12, q20, q99, q200, q999, q1e4, if_true, if_false]
          refine d66i s1.1 s1.2 (by omega) ?_
          try simp (disch := omega) only [show ¬ (6 = 3) by omega, show ¬ (6 = 4) by omega, wr_s, in_nI, clN, ti_z, ti_l, true_and, and_true, kI, zI, rI, kL, zL, rL, kR, zR, nnI, nnL, nnR, iL, iR, lI, lR, exi, exl, exv, eq_self, nI_add, nI_mul, nI_ltI, nI_leI, nI_eq, q0, q1, q2, q3, q4, q5, q6, q10, q100, br_Tr, br_Fa, iI_s, iI_n, bI_q0, bI_q1, or_true, true_or, not_true_eq_false, not_false_eq_true, nI_l, ge64, Nat.lt_irrefl, Nat.add_sub_cancel, Nat.not_lt_zero, lN_0, lN_1e4, lN_1e6, lN_1e3, lN_add, lN_mul, lN_ltI, lN_leI, lN_eqI, lN_i, lcE, lcLe, lcLt, lN_div, q7, q12, q20, q99, q200, q999, q1e4, if_true, if_false]
          refine sg114_220 l G _ 332 _ _ _ _ _ _ _ _ _ ?_
          try simp (disch := omega) only [wr_s, in_nI, clN, ti_z, ti_l, true_and, and_true, kI, zI, rI, kL, zL, rL, kR, zR, nnI, nnL, nnR, iL, iR, lI, lR, exi, exl, exv, eq_self, nI_add, nI_mul, nI_ltI, nI_leI, nI_eq, q0, q1, q2, q3, q4, q5, q6, q10, q100, br_Tr, br_Fa, iI_s, iI_n, bI_q0, bI_q1, or_true, true_or, not_true_eq_false, not_false_eq_true, nI_l, ge64, Nat.lt_irrefl, Nat.add_sub_cancel, Nat.not_lt_zero, lN_0, lN_1e4, lN_1e6, lN_1e3, lN_add, lN_mul, lN_ltI, lN_leI, lN_eqI, lN_i, lcE, lcLe, lcLt, lN_div, q7, q12, q20, q99, q200, q999, q1e4, if_true, if_false]
          refine d66i s2.1 s2.2 (by omega) ?_
          try simp (disch := omega) only [show ¬ (6 = 5) by omega, wr_s, in_nI, clN, ti_z, ti_l, true_and, and_true, kI, zI, rI, kL, zL, rL, kR, zR, nnI, nnL, nnR, iL, iR, lI, lR, exi, exl, exv, eq_self, nI_add, nI_mul, nI_ltI, nI_leI, nI_eq, q0, q1, q2, q3, q4, q5, q6, q10, q100, br_Tr, br_Fa, iI_s, iI_n, bI_q0, bI_q1, or_true, true_or, not_true_eq_false, not_false_eq_true, nI_l, ge64, Nat.lt_irrefl, Nat.add_sub_cancel, Nat.not_lt_zero, lN_0, lN_1e4, lN_1e6, lN_1e3, lN_add, lN_mul, lN_ltI, lN_leI, lN_eqI, lN_i, lcE, lcLe, lcLt, lN_div, q7, q12, q20, q99, q200, q999, q1e4, if_true, if_false]
          exact ih'
  refine ax_Ct.of (by decide) (Nat.le_of_ble_eq_true rfl) (sg114_0 l G _ 332 _ _ ?_)
  try simp (disch := omega) only [hw.2.1.all, hw.2.2.1, hw.2.2.2.1.all, hw.2.2.2.all, wr_s, in_nI, clN, ti_z, ti_l, true_and, and_true, kI, zI, rI, kL, zL, rL, kR, zR, nnI, nnL, nnR, iL, iR, lI, lR, exi, exl, exv, eq_self, nI_add, nI_mul, nI_sub, nI_ltI, nI_leI, nI_eq, q0, q1, q2, q3, q4, q5, q6, q10, q100, br_Tr, br_Fa, iI_s, iI_n, bI_q0, bI_q1, or_true, true_or, not_true_eq_false, not_false_eq_true, nI_l, ge64, Nat.lt_irrefl, Nat.add_sub_cancel, Nat.not_lt_zero, lN_0, lN_1e4, lN_1e6, lN_1e3, lN_add, lN_mul, lN_ltI, lN_leI, lN_eqI, lN_i, lcE, lcLe, lcLt, lN_div, q7, q12, q20, q99, q200, q999, q1e4, if_true, if_false]
  refine d55 hw ht ?_
  try simp (disch := omega) only [wr_s, in_nI, clN, ti_z, ti_l, true_and, and_true, kI, zI, rI, kL, zL, rL, kR, zR, nnI, nnL, nnR, iL, iR, lI, lR, exi, exl, exv, eq_self, nI_add, nI_mul, nI_sub, nI_ltI, nI_leI, nI_eq, q0, q1, q2, q3, q4, q5, q6, q10, q100, br_Tr, br_Fa, iI_s, iI_n, bI_q0, bI_q1, or_true, true_or, not_true_eq_false, not_false_eq_true, nI_l, ge64, Nat.lt_irrefl, Nat.add_sub_cancel, Nat.not_lt_zero, lN_0, lN_1e4, lN_1e6, lN_1e3, lN_add, lN_mul, lN_ltI, lN_leI, lN_eqI, lN_i, lcE, lcLe, lcLt, lN_div, q7, q12, q20, q99, q200, q999, q1e4, if_true, if_false]
  have st := loop 0 (Nat.zero_le _) μ (Fr.refl _ _) (fun i hi => by omega)
  have e : (prv a t 0).2.2.2 = !cmK a t (nCh a) := rfl
  rw [e] at st
  refine ax_brc (fun h => ?_) (fun h => ?_)
  · rw [h] at st; exact st
  · rw [show cmK a t (nCh a) = true by simpa using h] at st; exact st
end F1
