/-! the class: the reader's small words -/
theorem ax_Rw.cst {l : Launch} {G : ax_G} {h : ax_H} {EE : Program → Env → State → MethodId → Array Value → List Frame → Method → Code → State → Prop} {pc : Nat} {lv : ax_L} {st : List ax_V} {cl sl : Nat} {μ : ax_M} (k : Ag 64 (ax_0 G) μ → ax_Rw l G h EE pc lv st cl sl μ) : ax_Rw l G h EE pc lv st cl sl μ :=
  fun p e s m args below meth c hx H locs ls hH hl hq => k (fun a ha => ⟨(hH.2.2.2.2.2 a ha).1, fun j => ⟨(hH.2.2.2.2.2 a ha).2.1 j, (hH.2.2.2.2.2 a ha).2.2.1 j, (hH.2.2.2.2.2 a ha).2.2.2 j⟩⟩) p e s m args below meth c hx H locs ls hH hl hq
/-- an array of words as numbers -/
def isWs (μ : ax_M) (b c : Nat) (ws : Nat → List Nat) : Prop := mK μ b = 22 ∧ mZ μ b = c ∧ c < 10 ∧ ∀ i, i < c → gL μ b i = lN (cdB 256 0 (ws i)) ∧ okW (ws i)
theorem isWs.ag {n b c : Nat} {μ μ' : ax_M} {ws : Nat → List Nat} (h : isWs μ b c ws) (a : Ag n μ μ') (hb : b < n) : isWs μ' b c ws :=
  ⟨by rw [a.K hb]; exact h.1, by rw [a.Z hb]; exact h.2.1, h.2.2.1, fun i hi => by rw [a.L hb]; exact h.2.2.2 i hi⟩
/-- a text constant: its bytes are those of a word -/
def isStr (μ : ax_M) (b : Nat) (w : List Nat) : Prop := mK μ b = 13 ∧ gR μ b 0 = some (b + 28) ∧ gI μ b 1 = nI 0 ∧ mK μ (b + 28) = 20 ∧ mZ μ (b + 28) = w.length ∧ okW w ∧ ∀ j, j < w.length → gI μ (b + 28) j = nI (w.getD (w.length - 1 - j) 0)
theorem isStr.ag {n b : Nat} {μ μ' : ax_M} {w : List Nat} (h : isStr μ b w) (a : Ag n μ μ') (hb : b + 28 < n) : isStr μ' b w :=
  ⟨by rw [a.K (by omega)]; exact h.1, by rw [a.R (by omega)]; exact h.2.1, by rw [a.I (by omega)]; exact h.2.2.1, by rw [a.K hb]; exact h.2.2.2.1, by rw [a.Z hb]; exact h.2.2.2.2.1, h.2.2.2.2.2.1, fun j hj => by rw [a.I hb]; exact h.2.2.2.2.2.2 j hj⟩
/-- the constants that class and model read -/
def GC (G : ax_G) : Prop := (isWs (ax_0 G) 1 8 (fun i => sW (7 + i)) ∧ isWs (ax_0 G) 2 7 wHow ∧ isWs (ax_0 G) 3 3 wMis ∧ isWs (ax_0 G) 4 2 wSee ∧ isWs (ax_0 G) 5 2 wBas) ∧ ∀ k, 7 ≤ k → k < 35 → isStr (ax_0 G) k (sW k)
theorem n1_ne {t : Nat} (h : t < 2 ^ 31) : ¬ nI t = -nI 1 := by
  intro q
  have h2 := nI_pos h
  rw [q] at h2
  exact h2 (by decide +kernel)
def NmC (μ : ax_M) (m : Nm) : Prop := gI μ 151 3 = nI m.1 ∧ ∀ i, i < m.1 → gL μ 152 i = lN (cdB 256 0 (m.2 i).1) ∧ gI μ 153 i = nI (m.2 i).2.1 ∧ gI μ 154 i = nI (m.2 i).2.2
def NmOk (m : Nm) : Prop := m.1 ≤ 18 ∧ (∀ i, i < m.1 → okW (m.2 i).1 ∧ (m.2 i).2.1 ≤ 3 ∧ (m.2 i).2.2 ≤ 20) ∧ (∀ i j, i < m.1 → j < m.1 → (m.2 i).1 = (m.2 j).1 → i = j)
def CnB (a : Ld) : Prop := nMo a ≤ 12 ∧ nGr a ≤ 4 ∧ nTh a ≤ 8 ∧ nCh a ≤ 16 ∧ nHo a ≤ 3 ∧ nOf a ≤ 3
def RS (μ : ax_M) (M n : Nat) (p : Nat → Nat) (s : PS) : Prop := TpC μ p n ∧ (gR μ 150 2 = some M ∧ (M = 66 ∨ M = 108)) ∧ TkC μ n s.1 ∧ TkOk n s.1 ∧ RepL μ M (pL s) ∧ NmC μ (pM s) ∧ NmOk (pM s) ∧ CnB (pL s)
theorem TkC.all {μ : ax_M} {n : Nat} {t : Tk} (h : TkC μ n t) : gI μ 155 1 = nI n ∧ gI μ 155 2 = nI t.2.2.1 ∧ gI μ 155 3 = nI t.1 ∧ gI μ 155 4 = nI t.2.1 ∧ gL μ 155 5 = lN (cdB 256 0 t.2.2.2.1) ∧ gI μ 155 6 = nI t.2.2.2.2 := h
theorem RS.bd {μ : ax_M} {M n : Nat} {p : Nat → Nat} {s : PS} (h : RS μ M n p s) : (nMo (pL s) ≤ 12 ∧ nGr (pL s) ≤ 4 ∧ nTh (pL s) ≤ 8 ∧ nCh (pL s) ≤ 16 ∧ nHo (pL s) ≤ 3 ∧ nOf (pL s) ≤ 3) ∧ (M = 66 ∨ M = 108) ∧ n ≤ 900 ∧ (s.1.2.1 ≤ s.1.2.2.1 ∧ s.1.2.2.1 ≤ n ∧ s.1.1 ≤ 5 ∧ s.1.2.2.2.2 ≤ 999) ∧ (pM s).1 ≤ 18 :=
  ⟨h.2.2.2.2.2.2.2, h.2.1.2, h.1.2.2.1, ⟨h.2.2.2.1.1, h.2.2.2.1.2.1, h.2.2.2.1.2.2.1, h.2.2.2.1.2.2.2.2.2.2.1⟩, h.2.2.2.2.2.2.1.1⟩
theorem RS.w {μ : ax_M} {M n : Nat} {p : Nat → Nat} {s : PS} (h : RS μ M n p s) : okW (tW s) := h.2.2.2.1.2.2.2.1
def Sl (M : Nat) (a : Ld) (b : Nat) : Prop := (M + 5 + nTh a ≤ b ∧ b < M + 13) ∨ (M + 33 + 2 * nHo a ≤ b ∧ b < M + 39) ∨ (M + 39 + nOf a ≤ b ∧ b < M + 42)
theorem RepL.fq {P : Nat → Prop} {μ μ1 : ax_M} {L : Nat} {a : Ld} (hc : CnB a) (hl : RepL μ L a) (h : FQ P μ μ1) (hp : ∀ b, P b → (b < L ∨ L + 42 ≤ b) ∨ Sl L a b) : RepL μ1 L a := by
  obtain ⟨h0, h1, h2, h3, h4, h5⟩ := hl
  obtain ⟨c1, c2, c3, c4, c5, c6⟩ := hc
  unfold Sl at hp
  refine ⟨h0.fq h, fun k hk => ?_, fun t ht f hf => ?_, fun k hk => ⟨fun f hf => ?_, fun hh => ?_⟩, fun k hk => ⟨?_, ?_, fun g hg => ?_⟩, fun o ho f hf => ?_⟩
  · rw [h.I (fun q => by have := hp _ q; omega)]; exact h1 k hk
  · rw [h.I (fun q => by have := hp _ q; omega)]; exact h2 t ht f hf
  · rw [h.I (fun q => by have := hp _ q; omega)]; exact (h3 k hk).1 f hf
  · rw [h.I (fun q => by have := hp _ q; omega)]; exact (h3 k hk).2 hh
  · rw [h.I (fun q => by have := hp _ q; omega)]; exact (h4 k hk).1
  · rw [h.I (fun q => by have := hp _ q; omega)]; exact (h4 k hk).2.1
  · rw [h.I (fun q => by have := hp _ q; omega)]; exact (h4 k hk).2.2 g hg
  · rw [h.I (fun q => by have := hp _ q; omega)]; exact h5 o ho f hf
theorem NmC.fq {P : Nat → Prop} {μ μ1 : ax_M} {m : Nm} (h : NmC μ m) (f : FQ P μ μ1) (hp : ∀ b, P b → b < 151 ∨ 154 < b) : NmC μ1 m := by
  refine ⟨by rw [f.I (fun q => by have := hp _ q; omega)]; exact h.1, fun i hi => ?_⟩
  rw [f.L (fun q => by have := hp _ q; omega), f.I (fun q => by have := hp _ q; omega), f.I (fun q => by have := hp _ q; omega)]
  exact h.2 i hi
theorem TkC.fq {P : Nat → Prop} {μ μ1 : ax_M} {n : Nat} {t : Tk} (h : TkC μ n t) (f : FQ P μ μ1) (hp : ¬ P 155) : TkC μ1 n t := by
  unfold TkC at h ⊢
  rw [f.I hp, f.I hp, f.I hp, f.I hp, f.L hp, f.I hp]
  exact h
theorem RS.keep {P : Nat → Prop} {μ μ1 : ax_M} {M n : Nat} {p : Nat → Nat} {s : PS} (h : RS μ M n p s) (f : FQ P μ μ1) (hp : ∀ b, P b → b = 150 ∨ Sl M (pL s) b) : RS μ1 M n p s := by
  have hb := h.bd
  unfold Sl at hp
  exact ⟨h.1.fq f (fun q => by have := hp _ q; omega), ⟨by rw [f.R]; exact h.2.1.1, h.2.1.2⟩, h.2.2.1.fq f (fun q => by have := hp _ q; omega), h.2.2.2.1, h.2.2.2.2.1.fq h.2.2.2.2.2.2.2 f (fun b q => by have := hp _ q; unfold Sl; omega), h.2.2.2.2.2.1.fq f (fun b q => by have := hp _ q; omega), h.2.2.2.2.2.2⟩
theorem RS.adv {μ μ1 : ax_M} {M n : Nat} {p : Nat → Nat} {s : PS} (h : RS μ M n p s) (f : FQ P5 μ μ1) (hk : TkC μ1 n (adv p n (tE s))) : RS μ1 M n p (ad p n s) := by
  have hb := h.bd
  exact ⟨h.1.fq f (by decide), ⟨by rw [f.R]; exact h.2.1.1, h.2.1.2⟩, hk, (adv_ok hb.2.2.2.1.2.1).1, h.2.2.2.2.1.fq h.2.2.2.2.2.2.2 f (fun b q => by have q : b = 155 := q; omega), h.2.2.2.2.2.1.fq f (fun b q => by have q : b = 155 := q; omega), h.2.2.2.2.2.2⟩
def FS (μ : ax_M) (e : Nat × Nat) : Prop := gI μ 150 5 = nI e.1 ∧ gI μ 150 6 = nI e.2
abbrev PQ (b : Nat) : Prop := 150 ≤ b ∧ b < 156
abbrev P0 (b : Nat) : Prop := b = 150
abbrev P05 (b : Nat) : Prop := b = 150 ∨ b = 155
def RR (μ : ax_M) (v : Int32) (M n : Nat) (p : Nat → Nat) (x : Rs PS) : Prop := match x with
  | .inl e => v = nI 0 ∧ FS μ e
  | .inr s => v = nI 1 ∧ RS μ M n p s
def RV (μ : ax_M) (v : Int32) (M n : Nat) (p : Nat → Nat) (k : Nat) (x : Rs (Nat × PS)) : Prop := match x with
  | .inl e => v = nI 0 ∧ FS μ e
  | .inr r => v = nI 1 ∧ gI μ 150 k = nI r.1 ∧ RS μ M n p r.2
def RG (μ : ax_M) (v : Int32) (M n : Nat) (p : Nat → Nat) (s : PS) (x : Rs Nat) : Prop := match x with
  | .inl e => v = nI 0 ∧ FS μ e
  | .inr g => v = nI 1 ∧ gI μ 150 3 = nI g ∧ RS μ M n p s
section T3
variable {l : Launch} {G : ax_G} {μ : ax_M} {M n : Nat} {p : Nat → Nat} {s : PS}
theorem e105 {K : ax_M → Prop} (h : RS μ M n p s) (q : ∀ μ', FQ P5 μ μ' → RS μ' M n p (ad p n s) → K μ') : ax_CV l G 105 [ax_r (some 155)] μ K :=
  d105 h.1 h.bd.2.2.2.1.2.1 h.2.2.1.1 h.2.2.1.2.1 (fun μ' f hk => q μ' f (h.adv f hk))
theorem d32 {k : Nat} {K : Int32 → ax_M → Prop} (h : RS μ M n p s) (q : ∀ μ', FQ P0 μ μ' → FS μ' (k, tS s) → K (nI 0) μ') : ax_CI l G 32 [ax_r (some 150), ax_i (nI k)] μ K := by
  refine ax_Ct.of (by decide) (Nat.le_of_ble_eq_true rfl) (sg32_0 l G _ 150 _ _ ?_)
  try simp (disch := omega) only [h.1.1, h.1.2.1.all, h.2.1.1, h.2.2.1.all, h.2.2.2.2.1.1.all, h.2.2.2.2.1.all, h.2.2.2.2.2.1.1, h.2.2.2.2.2.1.2, wr_s, in_nI, clN, ti_z, ti_l, true_and, and_true, kI, zI, rI, kL, zL, rL, kR, zR, nnI, nnL, nnR, iL, iR, lI, lR, exi, exl, exv, eq_self, nI_add, nI_mul, nI_sub, nI_ltI, nI_leI, nI_eq, q0, q1, q2, q3, q4, q5, q6, q10, q100, br_Tr, br_Fa, iI_s, iI_n, bI_q0, bI_q1, or_true, true_or, not_true_eq_false, not_false_eq_true, nI_l, ge64, Nat.lt_irrefl, Nat.add_sub_cancel, Nat.not_lt_zero, lN_0, lN_1e4, lN_1e6, lN_1e3, lN_add, lN_mul, lN_ltI, lN_leI, lN_eqI, lN_i, lcE, lcLe, lcLt, lN_div, q7, q12, q20, q99, q200, q999, q1e4, if_true, if_false, Nat.le_refl, q8, q11, q16, q18, q32, q44, q48, q57, q59, q97, q122, q900]
  refine q _ (((FQ.refl P0 _).put rfl).put rfl) ⟨?_, ?_⟩
  · try simp (disch := omega) only [wr_s, in_nI, clN, ti_z, ti_l, true_and, and_true, kI, zI, rI, kL, zL, rL, kR, zR, nnI, nnL, nnR, iL, iR, lI, lR, exi, exl, exv, eq_self, nI_add, nI_mul, nI_sub, nI_ltI, nI_leI, nI_eq, q0, q1, q2, q3, q4, q5, q6, q10, q100, br_Tr, br_Fa, iI_s, iI_n, bI_q0, bI_q1, or_true, true_or, not_true_eq_false, not_false_eq_true, nI_l, ge64, Nat.lt_irrefl, Nat.add_sub_cancel, Nat.not_lt_zero, lN_0, lN_1e4, lN_1e6, lN_1e3, lN_add, lN_mul, lN_ltI, lN_leI, lN_eqI, lN_i, lcE, lcLe, lcLt, lN_div, q7, q12, q20, q99, q200, q999, q1e4, if_true, if_false, Nat.le_refl, q8, q11, q16, q18, q32, q44, q48, q57, q59, q97, q122, q900]
  · try simp (disch := omega) only [wr_s, in_nI, clN, ti_z, ti_l, true_and, and_true, kI, zI, rI, kL, zL, rL, kR, zR, nnI, nnL, nnR, iL, iR, lI, lR, exi, exl, exv, eq_self, nI_add, nI_mul, nI_sub, nI_ltI, nI_leI, nI_eq, q0, q1, q2, q3, q4, q5, q6, q10, q100, br_Tr, br_Fa, iI_s, iI_n, bI_q0, bI_q1, or_true, true_or, not_true_eq_false, not_false_eq_true, nI_l, ge64, Nat.lt_irrefl, Nat.add_sub_cancel, Nat.not_lt_zero, lN_0, lN_1e4, lN_1e6, lN_1e3, lN_add, lN_mul, lN_ltI, lN_leI, lN_eqI, lN_i, lcE, lcLe, lcLt, lN_div, q7, q12, q20, q99, q200, q999, q1e4, if_true, if_false, Nat.le_refl, q8, q11, q16, q18, q32, q44, q48, q57, q59, q97, q122, q900]
theorem d35 {K : Int32 → ax_M → Prop} (hG : GC G) (h : RS μ M n p s) (q : K (bI (isNm s)) μ) : ax_CI l G 35 [ax_r (some 150)] μ K := by
  have hb := h.bd
  unfold isNm at q
  refine ax_Ct.of (by decide) (Nat.le_of_ble_eq_true rfl) (ax_Rw.cst fun ag => sg35_0 l G _ 150 _ ?_)
  have hw := hG.1.1.ag ag (by omega)
  refine up_to (P := fun i => (∀ j, j < i → decide (tW s = sW (7 + j)) = false) → (ax_Rw l G ax_h35 (ax_E G ax_h35 (fun x μ' => ∃ v : Int32, x = some (ax_i v) ∧ K v μ')) 2 [(0, ax_r (some 150)), (1, ax_i (nI i))] [] 0 0 μ)) 8 (fun hf => ?_) (fun i hi ih hf => ?_) 0 (Nat.zero_le _) (fun j hj => by omega)
  · refine sg35_2 l G _ 150 _ _ ?_
    try simp (disch := omega) only [h.1.1, h.1.2.1.all, h.2.1.1, h.2.2.1.all, h.2.2.2.2.1.1.all, h.2.2.2.2.1.all, h.2.2.2.2.2.1.1, h.2.2.2.2.2.1.2, hw.1, hw.2.1, show 20 ≤ 22 ∧ 22 ≤ 28 by omega, wr_s, in_nI, clN, ti_z, ti_l, true_and, and_true, kI, zI, rI, kL, zL, rL, kR, zR, nnI, nnL, nnR, iL, iR, lI, lR, exi, exl, exv, eq_self, nI_add, nI_mul, nI_sub, nI_ltI, nI_leI, nI_eq, q0, q1, q2, q3, q4, q5, q6, q10, q100, br_Tr, br_Fa, iI_s, iI_n, bI_q0, bI_q1, or_true, true_or, not_true_eq_false, not_false_eq_true, nI_l, ge64, Nat.lt_irrefl, Nat.add_sub_cancel, Nat.not_lt_zero, lN_0, lN_1e4, lN_1e6, lN_1e3, lN_add, lN_mul, lN_ltI, lN_leI, lN_eqI, lN_i, lcE, lcLe, lcLt, lN_div, q7, q12, q20, q99, q200, q999, q1e4, if_true, if_false, Nat.le_refl, q8, q11, q16, q18, q32, q44, q48, q57, q59, q97, q122, q900]
    rw [anyN_f hf] at q
    refine ax_brc (fun e => ?_) (fun e => ?_)
    · rw [show decide (tK s = 1) = true from decide_eq_true e] at q; exact q
    · rw [show decide (tK s = 1) = false from decide_eq_false e] at q; exact q
  · refine sg35_2 l G _ 150 _ _ ?_
    try simp (disch := omega) only [h.1.1, h.1.2.1.all, h.2.1.1, h.2.2.1.all, h.2.2.2.2.1.1.all, h.2.2.2.2.1.all, h.2.2.2.2.2.1.1, h.2.2.2.2.2.1.2, hw.1, hw.2.1, hw.2.2.2, show 20 ≤ 22 ∧ 22 ≤ 28 by omega, hi, wr_s, in_nI, clN, ti_z, ti_l, true_and, and_true, kI, zI, rI, kL, zL, rL, kR, zR, nnI, nnL, nnR, iL, iR, lI, lR, exi, exl, exv, eq_self, nI_add, nI_mul, nI_sub, nI_ltI, nI_leI, nI_eq, q0, q1, q2, q3, q4, q5, q6, q10, q100, br_Tr, br_Fa, iI_s, iI_n, bI_q0, bI_q1, or_true, true_or, not_true_eq_false, not_false_eq_true, nI_l, ge64, Nat.lt_irrefl, Nat.add_sub_cancel, Nat.not_lt_zero, lN_0, lN_1e4, lN_1e6, lN_1e3, lN_add, lN_mul, lN_ltI, lN_leI, lN_eqI, lN_i, lcE, lcLe, lcLt, lN_div, q7, q12, q20, q99, q200, q999, q1e4, if_true, if_false, Nat.le_refl, q8, q11, q16, q18, q32, q44, q48, q57, q59, q97, q122, q900]
    rw [h.w.eq (hw.2.2.2 i hi).2]
    refine ax_brc (fun e => ?_) (fun e => ih (lt_s hf (decide_eq_false e)))
    rw [anyN_t hi (decide_eq_true e)] at q
    exact q
theorem d29 {w : List Nat} {K : Int32 → ax_M → Prop} (h : RS μ M n p s) (hw : okW w) (q : K (bI (fnd (pM s) w).isSome) μ) : ax_CI l G 29 [ax_r (some 151), ax_l (lN (cdB 256 0 w))] μ K := by
  have hb := h.bd
  have ho := h.2.2.2.2.2.2.1.2.1
  unfold fnd at q
  refine ax_Ct.of (by decide) (Nat.le_of_ble_eq_true rfl) (sg29_0 l G _ 151 _ _ ?_)
  refine up_to (P := fun i => (∀ j, j < i → decide (((pM s).2 j).1 = w) = false) → (ax_Rw l G ax_h29 (ax_E G ax_h29 (fun x μ' => ∃ v : Int32, x = some (ax_i v) ∧ K v μ')) 2 [(0, ax_r (some 151)), (1, ax_l (lN (cdB 256 0 w))), (3, ax_i (nI i))] [] 0 0 μ)) (pM s).1 (fun hf => ?_) (fun i hi ih hf => ?_) 0 (Nat.zero_le _) (fun j hj => by omega)
  · refine sg29_2 l G _ 151 _ _ _ ?_
    try simp (disch := omega) only [h.1.1, h.1.2.1.all, h.2.1.1, h.2.2.1.all, h.2.2.2.2.1.1.all, h.2.2.2.2.1.all, h.2.2.2.2.2.1.1, h.2.2.2.2.2.1.2, wr_s, in_nI, clN, ti_z, ti_l, true_and, and_true, kI, zI, rI, kL, zL, rL, kR, zR, nnI, nnL, nnR, iL, iR, lI, lR, exi, exl, exv, eq_self, nI_add, nI_mul, nI_sub, nI_ltI, nI_leI, nI_eq, q0, q1, q2, q3, q4, q5, q6, q10, q100, br_Tr, br_Fa, iI_s, iI_n, bI_q0, bI_q1, or_true, true_or, not_true_eq_false, not_false_eq_true, nI_l, ge64, Nat.lt_irrefl, Nat.add_sub_cancel, Nat.not_lt_zero, lN_0, lN_1e4, lN_1e6, lN_1e3, lN_add, lN_mul, lN_ltI, lN_leI, lN_eqI, lN_i, lcE, lcLe, lcLt, lN_div, q7, q12, q20, q99, q200, q999, q1e4, if_true, if_false, Nat.le_refl, q8, q11, q16, q18, q32, q44, q48, q57, q59, q97, q122, q900]
    rw [fst1_n hf] at q
    exact q
  · refine sg29_2 l G _ 151 _ _ _ ?_
    try simp (disch := omega) only [h.1.1, h.1.2.1.all, h.2.1.1, h.2.2.1.all, h.2.2.2.2.1.1.all, h.2.2.2.2.1.all, h.2.2.2.2.2.1.1, h.2.2.2.2.2.1.2, hi, wr_s, in_nI, clN, ti_z, ti_l, true_and, and_true, kI, zI, rI, kL, zL, rL, kR, zR, nnI, nnL, nnR, iL, iR, lI, lR, exi, exl, exv, eq_self, nI_add, nI_mul, nI_sub, nI_ltI, nI_leI, nI_eq, q0, q1, q2, q3, q4, q5, q6, q10, q100, br_Tr, br_Fa, iI_s, iI_n, bI_q0, bI_q1, or_true, true_or, not_true_eq_false, not_false_eq_true, nI_l, ge64, Nat.lt_irrefl, Nat.add_sub_cancel, Nat.not_lt_zero, lN_0, lN_1e4, lN_1e6, lN_1e3, lN_add, lN_mul, lN_ltI, lN_leI, lN_eqI, lN_i, lcE, lcLe, lcLt, lN_div, q7, q12, q20, q99, q200, q999, q1e4, if_true, if_false, Nat.le_refl, q8, q11, q16, q18, q32, q44, q48, q57, q59, q97, q122, q900]
    rw [(ho i hi).1.eq hw]
    refine ax_brc (fun e => ?_) (fun e => ih (lt_s hf (decide_eq_false e)))
    rw [fst1_s (decide_eq_true e) hf hi] at q
    exact q
theorem d30 {w : List Nat} {so : Nat} {K : Int32 → ax_M → Prop} (h : RS μ M n p s) (hw : okW w) (hs : so ≤ 3) (q : K (match fnd (pM s) w with
    | some i => if ((pM s).2 i).2.1 = so then nI ((pM s).2 i).2.2 else -nI 1
    | none => -nI 1) μ) : ax_CI l G 30 [ax_r (some 151), ax_l (lN (cdB 256 0 w)), ax_i (nI so)] μ K := by
  have hb := h.bd
  have ho := h.2.2.2.2.2.2.1.2.1
  have hu := h.2.2.2.2.2.2.1.2.2
  refine ax_Ct.of (by decide) (Nat.le_of_ble_eq_true rfl) (sg30_0 l G _ 151 _ _ _ ?_)
  refine up_to (P := fun i => (∀ j, j < i → ¬ (((pM s).2 j).1 = w ∧ ((pM s).2 j).2.1 = so)) → (ax_Rw l G ax_h30 (ax_E G ax_h30 (fun x μ' => ∃ v : Int32, x = some (ax_i v) ∧ K v μ')) 3 [(0, ax_r (some 151)), (1, ax_l (lN (cdB 256 0 w))), (3, ax_i (nI so)), (4, ax_i (nI i))] [] 0 0 μ)) (pM s).1 (fun hf => ?_) (fun i hi ih hf => ?_) 0 (Nat.zero_le _) (fun j hj => by omega)
  · refine sg30_3 l G _ 151 _ _ _ _ ?_
    try simp (disch := omega) only [h.1.1, h.1.2.1.all, h.2.1.1, h.2.2.1.all, h.2.2.2.2.1.1.all, h.2.2.2.2.1.all, h.2.2.2.2.2.1.1, h.2.2.2.2.2.1.2, wr_s, in_nI, clN, ti_z, ti_l, true_and, and_true, kI, zI, rI, kL, zL, rL, kR, zR, nnI, nnL, nnR, iL, iR, lI, lR, exi, exl, exv, eq_self, nI_add, nI_mul, nI_sub, nI_ltI, nI_leI, nI_eq, q0, q1, q2, q3, q4, q5, q6, q10, q100, br_Tr, br_Fa, iI_s, iI_n, bI_q0, bI_q1, or_true, true_or, not_true_eq_false, not_false_eq_true, nI_l, ge64, Nat.lt_irrefl, Nat.add_sub_cancel, Nat.not_lt_zero, lN_0, lN_1e4, lN_1e6, lN_1e3, lN_add, lN_mul, lN_ltI, lN_leI, lN_eqI, lN_i, lcE, lcLe, lcLt, lN_div, q7, q12, q20, q99, q200, q999, q1e4, if_true, if_false, Nat.le_refl, q8, q11, q16, q18, q32, q44, q48, q57, q59, q97, q122, q900]
    cases hk : fnd (pM s) w with
    | none => rw [hk] at q; exact q
    | some i =>
      rw [hk] at q
      have hi := fst1_i hk
      have e := of_decide_eq_true hi.2.1
      simp only at q
      rw [if_neg (fun e2 => hf i hi.1 ⟨e, e2⟩)] at q
      exact q
  · have hoi := ho i hi
    refine sg30_3 l G _ 151 _ _ _ _ ?_
    try simp (disch := omega) only [h.1.1, h.1.2.1.all, h.2.1.1, h.2.2.1.all, h.2.2.2.2.1.1.all, h.2.2.2.2.1.all, h.2.2.2.2.2.1.1, h.2.2.2.2.2.1.2, hi, wr_s, in_nI, clN, ti_z, ti_l, true_and, and_true, kI, zI, rI, kL, zL, rL, kR, zR, nnI, nnL, nnR, iL, iR, lI, lR, exi, exl, exv, eq_self, nI_add, nI_mul, nI_sub, nI_ltI, nI_leI, nI_eq, q0, q1, q2, q3, q4, q5, q6, q10, q100, br_Tr, br_Fa, iI_s, iI_n, bI_q0, bI_q1, or_true, true_or, not_true_eq_false, not_false_eq_true, nI_l, ge64, Nat.lt_irrefl, Nat.add_sub_cancel, Nat.not_lt_zero, lN_0, lN_1e4, lN_1e6, lN_1e3, lN_add, lN_mul, lN_ltI, lN_leI, lN_eqI, lN_i, lcE, lcLe, lcLt, lN_div, q7, q12, q20, q99, q200, q999, q1e4, if_true, if_false, Nat.le_refl, q8, q11, q16, q18, q32, q44, q48, q57, q59, q97, q122, q900]
    rw [hoi.1.eq hw]
    refine ax_brc (fun e => ?_) (fun e => ih (lt_s hf (fun q => e q.1)))
    refine ax_brc (fun e2 => ?_) (fun e2 => ih (lt_s hf (fun q => e2 q.2)))
    have hk : fnd (pM s) w = some i := fst1_s (decide_eq_true e) (fun j hj => decide_eq_false (fun ej => by have := hu j i (by omega) hi (ej.trans e.symm); omega)) hi
    rw [hk] at q
    simp only at q
    rw [if_pos e2] at q
    exact q
theorem d27 {w : List Nat} {so nu : Nat} {K : ax_M → Prop} (h : RS μ M n p s) (hc : (pM s).1 < 18) (q : ∀ μ', FQ PQ μ μ' → TkC μ' n s.1 → NmC μ' (nAdd (pM s) w so nu) → K μ') : ax_CV l G 27 [ax_r (some 151), ax_l (lN (cdB 256 0 w)), ax_i (nI so), ax_i (nI nu)] μ K := by
  have hb := h.bd
  refine ax_Ct.of (by decide) (Nat.le_of_ble_eq_true rfl) (sg27_0 l G _ 151 _ _ _ _ ?_)
  try simp (disch := omega) only [h.1.1, h.1.2.1.all, h.2.1.1, h.2.2.1.all, h.2.2.2.2.1.1.all, h.2.2.2.2.1.all, h.2.2.2.2.2.1.1, h.2.2.2.2.2.1.2, hc, wr_s, in_nI, clN, ti_z, ti_l, true_and, and_true, kI, zI, rI, kL, zL, rL, kR, zR, nnI, nnL, nnR, iL, iR, lI, lR, exi, exl, exv, eq_self, nI_add, nI_mul, nI_sub, nI_ltI, nI_leI, nI_eq, q0, q1, q2, q3, q4, q5, q6, q10, q100, br_Tr, br_Fa, iI_s, iI_n, bI_q0, bI_q1, or_true, true_or, not_true_eq_false, not_false_eq_true, nI_l, ge64, Nat.lt_irrefl, Nat.add_sub_cancel, Nat.not_lt_zero, lN_0, lN_1e4, lN_1e6, lN_1e3, lN_add, lN_mul, lN_ltI, lN_leI, lN_eqI, lN_i, lcE, lcLe, lcLt, lN_div, q7, q12, q20, q99, q200, q999, q1e4, if_true, if_false, Nat.le_refl, q8, q11, q16, q18, q32, q44, q48, q57, q59, q97, q122, q900]
  have f : FQ PQ μ (sI (sI (sI (sL μ 152 (pM s).1 (lN (cdB 256 0 w))) 153 (pM s).1 (nI so)) 154 (pM s).1 (nI nu)) 151 3 (nI ((pM s).1 + 1))) := ((((FQ.refl PQ _).putL (by omega)).put (by omega)).put (by omega)).put (by omega)
  refine q _ f ?_ ⟨?_, fun i hi => ?_⟩
  · have hk := h.2.2.1
    unfold TkC at hk ⊢
    try simp (disch := omega) only [lL_n, wr_s, in_nI, clN, ti_z, ti_l, true_and, and_true, kI, zI, rI, kL, zL, rL, kR, zR, nnI, nnL, nnR, iL, iR, lI, lR, exi, exl, exv, eq_self, nI_add, nI_mul, nI_sub, nI_ltI, nI_leI, nI_eq, q0, q1, q2, q3, q4, q5, q6, q10, q100, br_Tr, br_Fa, iI_s, iI_n, bI_q0, bI_q1, or_true, true_or, not_true_eq_false, not_false_eq_true, nI_l, ge64, Nat.lt_irrefl, Nat.add_sub_cancel, Nat.not_lt_zero, lN_0, lN_1e4, lN_1e6, lN_1e3, lN_add, lN_mul, lN_ltI, lN_leI, lN_eqI, lN_i, lcE, lcLe, lcLt, lN_div, q7, q12, q20, q99, q200, q999, q1e4, if_true, if_false, Nat.le_refl, q8, q11, q16, q18, q32, q44, q48, q57, q59, q97, q122, q900]
    exact hk
  · try simp (disch := omega) only [wr_s, in_nI, clN, ti_z, ti_l, true_and, and_true, kI, zI, rI, kL, zL, rL, kR, zR, nnI, nnL, nnR, iL, iR, lI, lR, exi, exl, exv, eq_self, nI_add, nI_mul, nI_sub, nI_ltI, nI_leI, nI_eq, q0, q1, q2, q3, q4, q5, q6, q10, q100, br_Tr, br_Fa, iI_s, iI_n, bI_q0, bI_q1, or_true, true_or, not_true_eq_false, not_false_eq_true, nI_l, ge64, Nat.lt_irrefl, Nat.add_sub_cancel, Nat.not_lt_zero, lN_0, lN_1e4, lN_1e6, lN_1e3, lN_add, lN_mul, lN_ltI, lN_leI, lN_eqI, lN_i, lcE, lcLe, lcLt, lN_div, q7, q12, q20, q99, q200, q999, q1e4, if_true, if_false, Nat.le_refl, q8, q11, q16, q18, q32, q44, q48, q57, q59, q97, q122, q900]; rfl
  · have hi : i < (pM s).1 + 1 := hi
    show _ = lN (cdB 256 0 (if i = (pM s).1 then (w, so, nu) else (pM s).2 i).1) ∧ _ = nI (if i = (pM s).1 then (w, so, nu) else (pM s).2 i).2.1 ∧ _ = nI (if i = (pM s).1 then (w, so, nu) else (pM s).2 i).2.2
    by_cases e : i = (pM s).1
    · subst e
      rw [if_pos rfl]
      refine ⟨?_, ?_, ?_⟩
      · rw [lI, lI, lI, lL_s]
      · try simp (disch := omega) only [wr_s, in_nI, clN, ti_z, ti_l, true_and, and_true, kI, zI, rI, kL, zL, rL, kR, zR, nnI, nnL, nnR, iL, iR, lI, lR, exi, exl, exv, eq_self, nI_add, nI_mul, nI_sub, nI_ltI, nI_leI, nI_eq, q0, q1, q2, q3, q4, q5, q6, q10, q100, br_Tr, br_Fa, iI_s, iI_n, bI_q0, bI_q1, or_true, true_or, not_true_eq_false, not_false_eq_true, nI_l, ge64, Nat.lt_irrefl, Nat.add_sub_cancel, Nat.not_lt_zero, lN_0, lN_1e4, lN_1e6, lN_1e3, lN_add, lN_mul, lN_ltI, lN_leI, lN_eqI, lN_i, lcE, lcLe, lcLt, lN_div, q7, q12, q20, q99, q200, q999, q1e4, if_true, if_false, Nat.le_refl, q8, q11, q16, q18, q32, q44, q48, q57, q59, q97, q122, q900]
      · try simp (disch := omega) only [wr_s, in_nI, clN, ti_z, ti_l, true_and, and_true, kI, zI, rI, kL, zL, rL, kR, zR, nnI, nnL, nnR, iL, iR, lI, lR, exi, exl, exv, eq_self, nI_add, nI_mul, nI_sub, nI_ltI, nI_leI, nI_eq, q0, q1, q2, q3, q4, q5, q6, q10, q100, br_Tr, br_Fa, iI_s, iI_n, bI_q0, bI_q1, or_true, true_or, not_true_eq_false, not_false_eq_true, nI_l, ge64, Nat.lt_irrefl, Nat.add_sub_cancel, Nat.not_lt_zero, lN_0, lN_1e4, lN_1e6, lN_1e3, lN_add, lN_mul, lN_ltI, lN_leI, lN_eqI, lN_i, lcE, lcLe, lcLt, lN_div, q7, q12, q20, q99, q200, q999, q1e4, if_true, if_false, Nat.le_refl, q8, q11, q16, q18, q32, q44, q48, q57, q59, q97, q122, q900]
    · rw [if_neg e]
      have hn := h.2.2.2.2.2.1.2 i (by omega)
      refine ⟨?_, ?_, ?_⟩
      · rw [lI, lI, lI, lL_n (by omega)]; exact hn.1
      · try simp (disch := omega) only [wr_s, in_nI, clN, ti_z, ti_l, true_and, and_true, kI, zI, rI, kL, zL, rL, kR, zR, nnI, nnL, nnR, iL, iR, lI, lR, exi, exl, exv, eq_self, nI_add, nI_mul, nI_sub, nI_ltI, nI_leI, nI_eq, q0, q1, q2, q3, q4, q5, q6, q10, q100, br_Tr, br_Fa, iI_s, iI_n, bI_q0, bI_q1, or_true, true_or, not_true_eq_false, not_false_eq_true, nI_l, ge64, Nat.lt_irrefl, Nat.add_sub_cancel, Nat.not_lt_zero, lN_0, lN_1e4, lN_1e6, lN_1e3, lN_add, lN_mul, lN_ltI, lN_leI, lN_eqI, lN_i, lcE, lcLe, lcLt, lN_div, q7, q12, q20, q99, q200, q999, q1e4, if_true, if_false, Nat.le_refl, q8, q11, q16, q18, q32, q44, q48, q57, q59, q97, q122, q900]; exact hn.2.1
      · try simp (disch := omega) only [wr_s, in_nI, clN, ti_z, ti_l, true_and, and_true, kI, zI, rI, kL, zL, rL, kR, zR, nnI, nnL, nnR, iL, iR, lI, lR, exi, exl, exv, eq_self, nI_add, nI_mul, nI_sub, nI_ltI, nI_leI, nI_eq, q0, q1, q2, q3, q4, q5, q6, q10, q100, br_Tr, br_Fa, iI_s, iI_n, bI_q0, bI_q1, or_true, true_or, not_true_eq_false, not_false_eq_true, nI_l, ge64, Nat.lt_irrefl, Nat.add_sub_cancel, Nat.not_lt_zero, lN_0, lN_1e4, lN_1e6, lN_1e3, lN_add, lN_mul, lN_ltI, lN_leI, lN_eqI, lN_i, lcE, lcLe, lcLt, lN_div, q7, q12, q20, q99, q200, q999, q1e4, if_true, if_false, Nat.le_refl, q8, q11, q16, q18, q32, q44, q48, q57, q59, q97, q122, q900]; exact hn.2.2
theorem NmOk.add {m : Nm} {w : List Nat} {so nu : Nat} (h : NmOk m) (hc : m.1 < 18) (hw : okW w) (hs : so ≤ 3) (hn : nu ≤ 20) (hf : fnd m w = none) : NmOk (nAdd m w so nu) := by
  have hf := fst1_0 hf
  refine ⟨hc, fun i hi => ?_, fun i j hi hj e => ?_⟩
  · have hi : i < m.1 + 1 := hi
    show okW (if i = m.1 then (w, so, nu) else m.2 i).1 ∧ (if i = m.1 then (w, so, nu) else m.2 i).2.1 ≤ 3 ∧ (if i = m.1 then (w, so, nu) else m.2 i).2.2 ≤ 20
    by_cases e : i = m.1
    · rw [if_pos e]; exact ⟨hw, hs, hn⟩
    · rw [if_neg e]; exact h.2.1 i (by omega)
  · have hi : i < m.1 + 1 := hi
    have hj : j < m.1 + 1 := hj
    have e : (if i = m.1 then (w, so, nu) else m.2 i).1 = (if j = m.1 then (w, so, nu) else m.2 j).1 := e
    by_cases e1 : i = m.1
    · by_cases e2 : j = m.1
      · omega
      · rw [if_pos e1, if_neg e2] at e
        exact absurd e.symm (of_decide_eq_false (hf j (by omega)))
    · by_cases e2 : j = m.1
      · rw [if_neg e1, if_pos e2] at e
        exact absurd e (of_decide_eq_false (hf i (by omega)))
      · rw [if_neg e1, if_neg e2] at e
        exact h.2.2 i j (by omega) (by omega) e
theorem d100 {so : Nat} {K : Int32 → ax_M → Prop} (hG : GC G) (h : RS μ M n p s) (hs : so ≤ 3) (q : ∀ μ' v, FQ P0 μ μ' → RG μ' v M n p s (tld so s) → K v μ') : ax_CI l G 100 [ax_r (some 150), ax_i (nI so)] μ K := by
  have hb := h.bd
  have ho := h.2.2.2.2.2.2.1.2.1
  unfold tld at q
  refine ax_Ct.of (by decide) (Nat.le_of_ble_eq_true rfl) (sg100_0 l G _ 150 _ _ ?_)
  try simp (disch := omega) only [h.1.1, h.1.2.1.all, h.2.1.1, h.2.2.1.all, h.2.2.2.2.1.1.all, h.2.2.2.2.1.all, h.2.2.2.2.2.1.1, h.2.2.2.2.2.1.2, wr_s, in_nI, clN, ti_z, ti_l, true_and, and_true, kI, zI, rI, kL, zL, rL, kR, zR, nnI, nnL, nnR, iL, iR, lI, lR, exi, exl, exv, eq_self, nI_add, nI_mul, nI_sub, nI_ltI, nI_leI, nI_eq, q0, q1, q2, q3, q4, q5, q6, q10, q100, br_Tr, br_Fa, iI_s, iI_n, bI_q0, bI_q1, or_true, true_or, not_true_eq_false, not_false_eq_true, nI_l, ge64, Nat.lt_irrefl, Nat.add_sub_cancel, Nat.not_lt_zero, lN_0, lN_1e4, lN_1e6, lN_1e3, lN_add, lN_mul, lN_ltI, lN_leI, lN_eqI, lN_i, lcE, lcLe, lcLt, lN_div, q7, q12, q20, q99, q200, q999, q1e4, if_true, if_false, Nat.le_refl, q8, q11, q16, q18, q32, q44, q48, q57, q59, q97, q122, q900]
  refine d35 hG h ?_
  try simp (disch := omega) only [h.1.1, h.1.2.1.all, h.2.1.1, h.2.2.1.all, h.2.2.2.2.1.1.all, h.2.2.2.2.1.all, h.2.2.2.2.2.1.1, h.2.2.2.2.2.1.2, wr_s, in_nI, clN, ti_z, ti_l, true_and, and_true, kI, zI, rI, kL, zL, rL, kR, zR, nnI, nnL, nnR, iL, iR, lI, lR, exi, exl, exv, eq_self, nI_add, nI_mul, nI_sub, nI_ltI, nI_leI, nI_eq, q0, q1, q2, q3, q4, q5, q6, q10, q100, br_Tr, br_Fa, iI_s, iI_n, bI_q0, bI_q1, or_true, true_or, not_true_eq_false, not_false_eq_true, nI_l, ge64, Nat.lt_irrefl, Nat.add_sub_cancel, Nat.not_lt_zero, lN_0, lN_1e4, lN_1e6, lN_1e3, lN_add, lN_mul, lN_ltI, lN_leI, lN_eqI, lN_i, lcE, lcLe, lcLt, lN_div, q7, q12, q20, q99, q200, q999, q1e4, if_true, if_false, Nat.le_refl, q8, q11, q16, q18, q32, q44, q48, q57, q59, q97, q122, q900]
  refine ax_brc (fun e => ?_) (fun e => ?_)
  · rw [if_neg (by rw [e]; exact Bool.false_ne_true)] at q
    refine d32 h (fun μ1 f1 h1 => ?_)
    try simp (disch := omega) only [wr_s, in_nI, clN, ti_z, ti_l, true_and, and_true, kI, zI, rI, kL, zL, rL, kR, zR, nnI, nnL, nnR, iL, iR, lI, lR, exi, exl, exv, eq_self, nI_add, nI_mul, nI_sub, nI_ltI, nI_leI, nI_eq, q0, q1, q2, q3, q4, q5, q6, q10, q100, br_Tr, br_Fa, iI_s, iI_n, bI_q0, bI_q1, or_true, true_or, not_true_eq_false, not_false_eq_true, nI_l, ge64, Nat.lt_irrefl, Nat.add_sub_cancel, Nat.not_lt_zero, lN_0, lN_1e4, lN_1e6, lN_1e3, lN_add, lN_mul, lN_ltI, lN_leI, lN_eqI, lN_i, lcE, lcLe, lcLt, lN_div, q7, q12, q20, q99, q200, q999, q1e4, if_true, if_false, Nat.le_refl, q8, q11, q16, q18, q32, q44, q48, q57, q59, q97, q122, q900]
    exact q _ _ f1 ⟨rfl, h1⟩
  rw [if_pos (by simpa using e)] at q
  refine d30 h h.w hs ?_
  cases hk : fnd (pM s) (tW s) with
  | none =>
    rw [hk] at q
    have f : FQ P0 μ (sI μ 150 3 (-nI 1)) := (FQ.refl P0 _).put rfl
    try simp (disch := omega) only [h.1.1, h.1.2.1.all, h.2.1.1, h.2.2.1.all, h.2.2.2.2.1.1.all, h.2.2.2.2.1.all, h.2.2.2.2.2.1.1, h.2.2.2.2.2.1.2, wr_s, in_nI, clN, ti_z, ti_l, true_and, and_true, kI, zI, rI, kL, zL, rL, kR, zR, nnI, nnL, nnR, iL, iR, lI, lR, exi, exl, exv, eq_self, nI_add, nI_mul, nI_sub, nI_ltI, nI_leI, nI_eq, q0, q1, q2, q3, q4, q5, q6, q10, q100, br_Tr, br_Fa, iI_s, iI_n, bI_q0, bI_q1, or_true, true_or, not_true_eq_false, not_false_eq_true, nI_l, ge64, Nat.lt_irrefl, Nat.add_sub_cancel, Nat.not_lt_zero, lN_0, lN_1e4, lN_1e6, lN_1e3, lN_add, lN_mul, lN_ltI, lN_leI, lN_eqI, lN_i, lcE, lcLe, lcLt, lN_div, q7, q12, q20, q99, q200, q999, q1e4, if_true, if_false, Nat.le_refl, q8, q11, q16, q18, q32, q44, q48, q57, q59, q97, q122, q900]
    refine d32 (h.keep f (fun b q => Or.inl q)) (fun μ1 f1 h1 => ?_)
    try simp (disch := omega) only [wr_s, in_nI, clN, ti_z, ti_l, true_and, and_true, kI, zI, rI, kL, zL, rL, kR, zR, nnI, nnL, nnR, iL, iR, lI, lR, exi, exl, exv, eq_self, nI_add, nI_mul, nI_sub, nI_ltI, nI_leI, nI_eq, q0, q1, q2, q3, q4, q5, q6, q10, q100, br_Tr, br_Fa, iI_s, iI_n, bI_q0, bI_q1, or_true, true_or, not_true_eq_false, not_false_eq_true, nI_l, ge64, Nat.lt_irrefl, Nat.add_sub_cancel, Nat.not_lt_zero, lN_0, lN_1e4, lN_1e6, lN_1e3, lN_add, lN_mul, lN_ltI, lN_leI, lN_eqI, lN_i, lcE, lcLe, lcLt, lN_div, q7, q12, q20, q99, q200, q999, q1e4, if_true, if_false, Nat.le_refl, q8, q11, q16, q18, q32, q44, q48, q57, q59, q97, q122, q900]
    exact q _ _ (f.trans f1) ⟨rfl, h1⟩
  | some i =>
    rw [hk] at q
    have hi := ho i (fst1_i hk).1
    simp only at q ⊢
    by_cases e2 : ((pM s).2 i).2.1 = so
    · rw [if_pos e2] at q ⊢
      have f : FQ P0 μ (sI μ 150 3 (nI ((pM s).2 i).2.2)) := (FQ.refl P0 _).put rfl
      try simp (disch := omega) only [h.1.1, h.1.2.1.all, h.2.1.1, h.2.2.1.all, h.2.2.2.2.1.1.all, h.2.2.2.2.1.all, h.2.2.2.2.2.1.1, h.2.2.2.2.2.1.2, eq_false (n1_ne (show ((pM s).2 i).2.2 < 2 ^ 31 by omega)), wr_s, in_nI, clN, ti_z, ti_l, true_and, and_true, kI, zI, rI, kL, zL, rL, kR, zR, nnI, nnL, nnR, iL, iR, lI, lR, exi, exl, exv, eq_self, nI_add, nI_mul, nI_sub, nI_ltI, nI_leI, nI_eq, q0, q1, q2, q3, q4, q5, q6, q10, q100, br_Tr, br_Fa, iI_s, iI_n, bI_q0, bI_q1, or_true, true_or, not_true_eq_false, not_false_eq_true, nI_l, ge64, Nat.lt_irrefl, Nat.add_sub_cancel, Nat.not_lt_zero, lN_0, lN_1e4, lN_1e6, lN_1e3, lN_add, lN_mul, lN_ltI, lN_leI, lN_eqI, lN_i, lcE, lcLe, lcLt, lN_div, q7, q12, q20, q99, q200, q999, q1e4, if_true, if_false, Nat.le_refl, q8, q11, q16, q18, q32, q44, q48, q57, q59, q97, q122, q900]
      exact q _ _ f ⟨rfl, iI_s _ _ _ _, h.keep f (fun b q => Or.inl q)⟩
    · rw [if_neg e2] at q ⊢
      have f : FQ P0 μ (sI μ 150 3 (-nI 1)) := (FQ.refl P0 _).put rfl
      try simp (disch := omega) only [h.1.1, h.1.2.1.all, h.2.1.1, h.2.2.1.all, h.2.2.2.2.1.1.all, h.2.2.2.2.1.all, h.2.2.2.2.2.1.1, h.2.2.2.2.2.1.2, wr_s, in_nI, clN, ti_z, ti_l, true_and, and_true, kI, zI, rI, kL, zL, rL, kR, zR, nnI, nnL, nnR, iL, iR, lI, lR, exi, exl, exv, eq_self, nI_add, nI_mul, nI_sub, nI_ltI, nI_leI, nI_eq, q0, q1, q2, q3, q4, q5, q6, q10, q100, br_Tr, br_Fa, iI_s, iI_n, bI_q0, bI_q1, or_true, true_or, not_true_eq_false, not_false_eq_true, nI_l, ge64, Nat.lt_irrefl, Nat.add_sub_cancel, Nat.not_lt_zero, lN_0, lN_1e4, lN_1e6, lN_1e3, lN_add, lN_mul, lN_ltI, lN_leI, lN_eqI, lN_i, lcE, lcLe, lcLt, lN_div, q7, q12, q20, q99, q200, q999, q1e4, if_true, if_false, Nat.le_refl, q8, q11, q16, q18, q32, q44, q48, q57, q59, q97, q122, q900]
      refine d32 (h.keep f (fun b q => Or.inl q)) (fun μ1 f1 h1 => ?_)
      try simp (disch := omega) only [wr_s, in_nI, clN, ti_z, ti_l, true_and, and_true, kI, zI, rI, kL, zL, rL, kR, zR, nnI, nnL, nnR, iL, iR, lI, lR, exi, exl, exv, eq_self, nI_add, nI_mul, nI_sub, nI_ltI, nI_leI, nI_eq, q0, q1, q2, q3, q4, q5, q6, q10, q100, br_Tr, br_Fa, iI_s, iI_n, bI_q0, bI_q1, or_true, true_or, not_true_eq_false, not_false_eq_true, nI_l, ge64, Nat.lt_irrefl, Nat.add_sub_cancel, Nat.not_lt_zero, lN_0, lN_1e4, lN_1e6, lN_1e3, lN_add, lN_mul, lN_ltI, lN_leI, lN_eqI, lN_i, lcE, lcLe, lcLt, lN_div, q7, q12, q20, q99, q200, q999, q1e4, if_true, if_false, Nat.le_refl, q8, q11, q16, q18, q32, q44, q48, q57, q59, q97, q122, q900]
      exact q _ _ (f.trans f1) ⟨rfl, h1⟩
theorem d144 {so : Nat} {K : Int32 → ax_M → Prop} (hG : GC G) (h : RS μ M n p s) (hs : so ≤ 3) (q : ∀ μ' v, FQ P05 μ μ' → RV μ' v M n p 3 (tlA p n so s) → K v μ') : ax_CI l G 144 [ax_r (some 150), ax_i (nI so)] μ K := by
  unfold tlA at q
  refine ax_Ct.of (by decide) (Nat.le_of_ble_eq_true rfl) (sg144_0 l G _ 150 _ _ ?_)
  try simp (disch := omega) only [h.1.1, h.1.2.1.all, h.2.1.1, h.2.2.1.all, h.2.2.2.2.1.1.all, h.2.2.2.2.1.all, h.2.2.2.2.2.1.1, h.2.2.2.2.2.1.2, wr_s, in_nI, clN, ti_z, ti_l, true_and, and_true, kI, zI, rI, kL, zL, rL, kR, zR, nnI, nnL, nnR, iL, iR, lI, lR, exi, exl, exv, eq_self, nI_add, nI_mul, nI_sub, nI_ltI, nI_leI, nI_eq, q0, q1, q2, q3, q4, q5, q6, q10, q100, br_Tr, br_Fa, iI_s, iI_n, bI_q0, bI_q1, or_true, true_or, not_true_eq_false, not_false_eq_true, nI_l, ge64, Nat.lt_irrefl, Nat.add_sub_cancel, Nat.not_lt_zero, lN_0, lN_1e4, lN_1e6, lN_1e3, lN_add, lN_mul, lN_ltI, lN_leI, lN_eqI, lN_i, lcE, lcLe, lcLt, lN_div, q7, q12, q20, q99, q200, q999, q1e4, if_true, if_false, Nat.le_refl, q8, q11, q16, q18, q32, q44, q48, q57, q59, q97, q122, q900]
  refine d100 hG h hs (fun μ1 v f1 h1 => ?_)
  cases e : tld so s with
  | inl e1 =>
    rw [e] at q h1
    obtain ⟨rfl, h1⟩ := h1
    try simp (disch := omega) only [wr_s, in_nI, clN, ti_z, ti_l, true_and, and_true, kI, zI, rI, kL, zL, rL, kR, zR, nnI, nnL, nnR, iL, iR, lI, lR, exi, exl, exv, eq_self, nI_add, nI_mul, nI_sub, nI_ltI, nI_leI, nI_eq, q0, q1, q2, q3, q4, q5, q6, q10, q100, br_Tr, br_Fa, iI_s, iI_n, bI_q0, bI_q1, or_true, true_or, not_true_eq_false, not_false_eq_true, nI_l, ge64, Nat.lt_irrefl, Nat.add_sub_cancel, Nat.not_lt_zero, lN_0, lN_1e4, lN_1e6, lN_1e3, lN_add, lN_mul, lN_ltI, lN_leI, lN_eqI, lN_i, lcE, lcLe, lcLt, lN_div, q7, q12, q20, q99, q200, q999, q1e4, if_true, if_false, Nat.le_refl, q8, q11, q16, q18, q32, q44, q48, q57, q59, q97, q122, q900]
    exact q _ _ (f1.mono (fun b q => Or.inl q)) ⟨rfl, h1⟩
  | inr g =>
    rw [e] at q h1
    obtain ⟨rfl, h1, h2⟩ := h1
    try simp (disch := omega) only [h2.1.1, h2.1.2.1.all, h2.2.1.1, h2.2.2.1.all, h2.2.2.2.2.1.1.all, h2.2.2.2.2.1.all, h2.2.2.2.2.2.1.1, h2.2.2.2.2.2.1.2, show ¬ (1 = 0) by omega, wr_s, in_nI, clN, ti_z, ti_l, true_and, and_true, kI, zI, rI, kL, zL, rL, kR, zR, nnI, nnL, nnR, iL, iR, lI, lR, exi, exl, exv, eq_self, nI_add, nI_mul, nI_sub, nI_ltI, nI_leI, nI_eq, q0, q1, q2, q3, q4, q5, q6, q10, q100, br_Tr, br_Fa, iI_s, iI_n, bI_q0, bI_q1, or_true, true_or, not_true_eq_false, not_false_eq_true, nI_l, ge64, Nat.lt_irrefl, Nat.add_sub_cancel, Nat.not_lt_zero, lN_0, lN_1e4, lN_1e6, lN_1e3, lN_add, lN_mul, lN_ltI, lN_leI, lN_eqI, lN_i, lcE, lcLe, lcLt, lN_div, q7, q12, q20, q99, q200, q999, q1e4, if_true, if_false, Nat.le_refl, q8, q11, q16, q18, q32, q44, q48, q57, q59, q97, q122, q900]
    refine e105 h2 (fun μ2 f2 h3 => ?_)
    exact q _ _ ((f1.mono (fun b q => Or.inl q)).trans (f2.mono (fun b q => Or.inr q))) ⟨rfl, by rw [f2.I (by decide)]; exact h1, h3⟩
theorem d142 {w : List Nat} {x : Int64} {K : Int32 → ax_M → Prop} (h : RS μ M n p s) (hx : x = lN (cdB 256 0 w)) (hw : okW w) (q : ∀ μ' v, FQ P05 μ μ' → RR μ' v M n p (tWd p n w s) → K v μ') : ax_CI l G 142 [ax_r (some 150), ax_l x] μ K := by
  unfold tWd at q
  subst hx
  refine ax_Ct.of (by decide) (Nat.le_of_ble_eq_true rfl) (sg142_0 l G _ 150 _ _ ?_)
  try simp (disch := omega) only [h.1.1, h.1.2.1.all, h.2.1.1, h.2.2.1.all, h.2.2.2.2.1.1.all, h.2.2.2.2.1.all, h.2.2.2.2.2.1.1, h.2.2.2.2.2.1.2, wr_s, in_nI, clN, ti_z, ti_l, true_and, and_true, kI, zI, rI, kL, zL, rL, kR, zR, nnI, nnL, nnR, iL, iR, lI, lR, exi, exl, exv, eq_self, nI_add, nI_mul, nI_sub, nI_ltI, nI_leI, nI_eq, q0, q1, q2, q3, q4, q5, q6, q10, q100, br_Tr, br_Fa, iI_s, iI_n, bI_q0, bI_q1, or_true, true_or, not_true_eq_false, not_false_eq_true, nI_l, ge64, Nat.lt_irrefl, Nat.add_sub_cancel, Nat.not_lt_zero, lN_0, lN_1e4, lN_1e6, lN_1e3, lN_add, lN_mul, lN_ltI, lN_leI, lN_eqI, lN_i, lcE, lcLe, lcLt, lN_div, q7, q12, q20, q99, q200, q999, q1e4, if_true, if_false, Nat.le_refl, q8, q11, q16, q18, q32, q44, q48, q57, q59, q97, q122, q900]
  rw [h.w.eq hw]
  refine ax_brc (fun e => ?_) (fun e => ?_)
  · rw [if_pos e] at q
    refine e105 h (fun μ1 f1 h1 => ?_)
    exact q _ _ (f1.mono (fun b q => Or.inr q)) ⟨rfl, h1⟩
  · rw [if_neg e] at q
    refine d32 h (fun μ1 f1 h1 => ?_)
    try simp (disch := omega) only [wr_s, in_nI, clN, ti_z, ti_l, true_and, and_true, kI, zI, rI, kL, zL, rL, kR, zR, nnI, nnL, nnR, iL, iR, lI, lR, exi, exl, exv, eq_self, nI_add, nI_mul, nI_sub, nI_ltI, nI_leI, nI_eq, q0, q1, q2, q3, q4, q5, q6, q10, q100, br_Tr, br_Fa, iI_s, iI_n, bI_q0, bI_q1, or_true, true_or, not_true_eq_false, not_false_eq_true, nI_l, ge64, Nat.lt_irrefl, Nat.add_sub_cancel, Nat.not_lt_zero, lN_0, lN_1e4, lN_1e6, lN_1e3, lN_add, lN_mul, lN_ltI, lN_leI, lN_eqI, lN_i, lcE, lcLe, lcLt, lN_div, q7, q12, q20, q99, q200, q999, q1e4, if_true, if_false, Nat.le_refl, q8, q11, q16, q18, q32, q44, q48, q57, q59, q97, q122, q900]
    exact q _ _ (f1.mono (fun b q => Or.inl q)) ⟨rfl, h1⟩
theorem d141 {lo hi : Nat} {K : Int32 → ax_M → Prop} (h : RS μ M n p s) (hl : lo ≤ 999) (hh : hi ≤ 999) (q : ∀ μ' v, FQ P05 μ μ' → RV μ' v M n p 4 (tWh p n lo hi s) → K v μ') : ax_CI l G 141 [ax_r (some 150), ax_i (nI lo), ax_i (nI hi)] μ K := by
  have hb := h.bd
  unfold tWh at q
  refine ax_Ct.of (by decide) (Nat.le_of_ble_eq_true rfl) (sg141_0 l G _ 150 _ _ _ ?_)
  try simp (disch := omega) only [h.1.1, h.1.2.1.all, h.2.1.1, h.2.2.1.all, h.2.2.2.2.1.1.all, h.2.2.2.2.1.all, h.2.2.2.2.2.1.1, h.2.2.2.2.2.1.2, wr_s, in_nI, clN, ti_z, ti_l, true_and, and_true, kI, zI, rI, kL, zL, rL, kR, zR, nnI, nnL, nnR, iL, iR, lI, lR, exi, exl, exv, eq_self, nI_add, nI_mul, nI_sub, nI_ltI, nI_leI, nI_eq, q0, q1, q2, q3, q4, q5, q6, q10, q100, br_Tr, br_Fa, iI_s, iI_n, bI_q0, bI_q1, or_true, true_or, not_true_eq_false, not_false_eq_true, nI_l, ge64, Nat.lt_irrefl, Nat.add_sub_cancel, Nat.not_lt_zero, lN_0, lN_1e4, lN_1e6, lN_1e3, lN_add, lN_mul, lN_ltI, lN_leI, lN_eqI, lN_i, lcE, lcLe, lcLt, lN_div, q7, q12, q20, q99, q200, q999, q1e4, if_true, if_false, Nat.le_refl, q8, q11, q16, q18, q32, q44, q48, q57, q59, q97, q122, q900]
  refine ax_brc (fun e => ?_) (fun e => ?_)
  · rw [if_pos e] at q
    have f : FQ P0 μ (sI μ 150 4 (nI (tN s))) := (FQ.refl P0 _).put rfl
    have h' := h.keep f (fun b q => Or.inl q)
    have eN : tN s = s.1.2.2.2.2 := rfl
    have bad : ¬ (lo ≤ tN s ∧ tN s ≤ hi) → ax_CI l G 32 [ax_r (some 150), ax_i (nI 4)] (sI μ 150 4 (nI (tN s))) (fun y m => (y = nI 0 ∨ y = nI 1) ∧ K y m) := by
      intro e2
      rw [if_neg e2] at q
      refine d32 h' (fun μ1 f1 h1 => ?_)
      try simp (disch := omega) only [wr_s, in_nI, clN, ti_z, ti_l, true_and, and_true, kI, zI, rI, kL, zL, rL, kR, zR, nnI, nnL, nnR, iL, iR, lI, lR, exi, exl, exv, eq_self, nI_add, nI_mul, nI_sub, nI_ltI, nI_leI, nI_eq, q0, q1, q2, q3, q4, q5, q6, q10, q100, br_Tr, br_Fa, iI_s, iI_n, bI_q0, bI_q1, or_true, true_or, not_true_eq_false, not_false_eq_true, nI_l, ge64, Nat.lt_irrefl, Nat.add_sub_cancel, Nat.not_lt_zero, lN_0, lN_1e4, lN_1e6, lN_1e3, lN_add, lN_mul, lN_ltI, lN_leI, lN_eqI, lN_i, lcE, lcLe, lcLt, lN_div, q7, q12, q20, q99, q200, q999, q1e4, if_true, if_false, Nat.le_refl, q8, q11, q16, q18, q32, q44, q48, q57, q59, q97, q122, q900]
      exact q _ _ ((f.trans f1).mono (fun b q => Or.inl q)) ⟨rfl, h1⟩
    refine ax_brc (fun e2 => bad (by omega)) (fun e2 => ax_brc (fun e3 => ?_) (fun e3 => bad (by omega)))
    rw [if_pos ⟨by omega, by omega⟩] at q
    refine e105 h' (fun μ1 f1 h1 => ?_)
    exact q _ _ ((f.mono (fun b q => Or.inl q)).trans (f1.mono (fun b q => Or.inr q))) ⟨rfl, by rw [f1.I (by decide)]; exact iI_s _ _ _ _, h1⟩
  · rw [if_neg e] at q
    refine d32 h (fun μ1 f1 h1 => ?_)
    try simp (disch := omega) only [wr_s, in_nI, clN, ti_z, ti_l, true_and, and_true, kI, zI, rI, kL, zL, rL, kR, zR, nnI, nnL, nnR, iL, iR, lI, lR, exi, exl, exv, eq_self, nI_add, nI_mul, nI_sub, nI_ltI, nI_leI, nI_eq, q0, q1, q2, q3, q4, q5, q6, q10, q100, br_Tr, br_Fa, iI_s, iI_n, bI_q0, bI_q1, or_true, true_or, not_true_eq_false, not_false_eq_true, nI_l, ge64, Nat.lt_irrefl, Nat.add_sub_cancel, Nat.not_lt_zero, lN_0, lN_1e4, lN_1e6, lN_1e3, lN_add, lN_mul, lN_ltI, lN_leI, lN_eqI, lN_i, lcE, lcLe, lcLt, lN_div, q7, q12, q20, q99, q200, q999, q1e4, if_true, if_false, Nat.le_refl, q8, q11, q16, q18, q32, q44, q48, q57, q59, q97, q122, q900]
    exact q _ _ (f1.mono (fun b q => Or.inl q)) ⟨rfl, h1⟩
theorem d140 {b c : Nat} {ws : Nat → List Nat} {K : Int32 → ax_M → Prop} (hG : isWs (ax_0 G) b c ws) (hb64 : b < 64) (h : RS μ M n p s) (q : ∀ μ' v, FQ P05 μ μ' → RV μ' v M n p 4 (one p n ws c s) → K v μ') : ax_CI l G 140 [ax_r (some 150), ax_r (some b)] μ K := by
  have hb := h.bd
  unfold one at q
  refine ax_Ct.of (by decide) (Nat.le_of_ble_eq_true rfl) (ax_Rw.cst fun ag => sg140_0 l G _ 150 b _ ?_)
  have hw := hG.ag ag hb64
  have hc := hw.2.2.1
  refine up_to (P := fun i => (∀ j, j < i → decide (tW s = ws j) = false) → (ax_Rw l G ax_h140 (ax_E G ax_h140 (fun x μ' => ∃ v : Int32, x = some (ax_i v) ∧ K v μ')) 2 [(0, ax_r (some 150)), (1, ax_r (some b)), (2, ax_i (nI i))] [] 0 0 μ)) c (fun hf => ?_) (fun i hi ih hf => ?_) 0 (Nat.zero_le _) (fun j hj => by omega)
  · rw [fst1_n hf] at q
    refine sg140_2 l G _ 150 b _ _ ?_
    try simp (disch := omega) only [h.1.1, h.1.2.1.all, h.2.1.1, h.2.2.1.all, h.2.2.2.2.1.1.all, h.2.2.2.2.1.all, h.2.2.2.2.2.1.1, h.2.2.2.2.2.1.2, hw.1, hw.2.1, show 20 ≤ 22 ∧ 22 ≤ 28 by omega, wr_s, in_nI, clN, ti_z, ti_l, true_and, and_true, kI, zI, rI, kL, zL, rL, kR, zR, nnI, nnL, nnR, iL, iR, lI, lR, exi, exl, exv, eq_self, nI_add, nI_mul, nI_sub, nI_ltI, nI_leI, nI_eq, q0, q1, q2, q3, q4, q5, q6, q10, q100, br_Tr, br_Fa, iI_s, iI_n, bI_q0, bI_q1, or_true, true_or, not_true_eq_false, not_false_eq_true, nI_l, ge64, Nat.lt_irrefl, Nat.add_sub_cancel, Nat.not_lt_zero, lN_0, lN_1e4, lN_1e6, lN_1e3, lN_add, lN_mul, lN_ltI, lN_leI, lN_eqI, lN_i, lcE, lcLe, lcLt, lN_div, q7, q12, q20, q99, q200, q999, q1e4, if_true, if_false, Nat.le_refl, q8, q11, q16, q18, q32, q44, q48, q57, q59, q97, q122, q900]
    refine d32 h (fun μ1 f1 h1 => ?_)
    try simp (disch := omega) only [wr_s, in_nI, clN, ti_z, ti_l, true_and, and_true, kI, zI, rI, kL, zL, rL, kR, zR, nnI, nnL, nnR, iL, iR, lI, lR, exi, exl, exv, eq_self, nI_add, nI_mul, nI_sub, nI_ltI, nI_leI, nI_eq, q0, q1, q2, q3, q4, q5, q6, q10, q100, br_Tr, br_Fa, iI_s, iI_n, bI_q0, bI_q1, or_true, true_or, not_true_eq_false, not_false_eq_true, nI_l, ge64, Nat.lt_irrefl, Nat.add_sub_cancel, Nat.not_lt_zero, lN_0, lN_1e4, lN_1e6, lN_1e3, lN_add, lN_mul, lN_ltI, lN_leI, lN_eqI, lN_i, lcE, lcLe, lcLt, lN_div, q7, q12, q20, q99, q200, q999, q1e4, if_true, if_false, Nat.le_refl, q8, q11, q16, q18, q32, q44, q48, q57, q59, q97, q122, q900]
    exact q _ _ (f1.mono (fun b q => Or.inl q)) ⟨rfl, h1⟩
  · refine sg140_2 l G _ 150 b _ _ ?_
    try simp (disch := omega) only [h.1.1, h.1.2.1.all, h.2.1.1, h.2.2.1.all, h.2.2.2.2.1.1.all, h.2.2.2.2.1.all, h.2.2.2.2.2.1.1, h.2.2.2.2.2.1.2, hw.1, hw.2.1, hw.2.2.2, show 20 ≤ 22 ∧ 22 ≤ 28 by omega, hi, wr_s, in_nI, clN, ti_z, ti_l, true_and, and_true, kI, zI, rI, kL, zL, rL, kR, zR, nnI, nnL, nnR, iL, iR, lI, lR, exi, exl, exv, eq_self, nI_add, nI_mul, nI_sub, nI_ltI, nI_leI, nI_eq, q0, q1, q2, q3, q4, q5, q6, q10, q100, br_Tr, br_Fa, iI_s, iI_n, bI_q0, bI_q1, or_true, true_or, not_true_eq_false, not_false_eq_true, nI_l, ge64, Nat.lt_irrefl, Nat.add_sub_cancel, Nat.not_lt_zero, lN_0, lN_1e4, lN_1e6, lN_1e3, lN_add, lN_mul, lN_ltI, lN_leI, lN_eqI, lN_i, lcE, lcLe, lcLt, lN_div, q7, q12, q20, q99, q200, q999, q1e4, if_true, if_false, Nat.le_refl, q8, q11, q16, q18, q32, q44, q48, q57, q59, q97, q122, q900]
    rw [h.w.eq (hw.2.2.2 i hi).2]
    refine ax_brc (fun e => ?_) (fun e => ih (lt_s hf (decide_eq_false e)))
    rw [fst1_s (decide_eq_true e) hf hi] at q
    have f : FQ P0 μ (sI μ 150 4 (nI i)) := (FQ.refl P0 _).put rfl
    have h' := h.keep f (fun b q => Or.inl q)
    refine e105 h' (fun μ1 f1 h1 => ?_)
    exact q _ _ ((f.mono (fun b q => Or.inl q)).trans (f1.mono (fun b q => Or.inr q))) ⟨rfl, by rw [f1.I (by decide)]; exact iI_s _ _ _ _, h1⟩
theorem d143 {so nu : Nat} {K : Int32 → ax_M → Prop} (hG : GC G) (h : RS μ M n p s) (hc : (pM s).1 < 18) (hs : so ≤ 3) (hn : nu ≤ 20) (q : ∀ μ' v, FQ PQ μ μ' → RR μ' v M n p (nmd p n so nu s) → K v μ') : ax_CI l G 143 [ax_r (some 150), ax_i (nI so), ax_i (nI nu)] μ K := by
  have hb := h.bd
  unfold nmd at q
  refine ax_Ct.of (by decide) (Nat.le_of_ble_eq_true rfl) (sg143_0 l G _ 150 _ _ _ ?_)
  try simp (disch := omega) only [h.1.1, h.1.2.1.all, h.2.1.1, h.2.2.1.all, h.2.2.2.2.1.1.all, h.2.2.2.2.1.all, h.2.2.2.2.2.1.1, h.2.2.2.2.2.1.2, wr_s, in_nI, clN, ti_z, ti_l, true_and, and_true, kI, zI, rI, kL, zL, rL, kR, zR, nnI, nnL, nnR, iL, iR, lI, lR, exi, exl, exv, eq_self, nI_add, nI_mul, nI_sub, nI_ltI, nI_leI, nI_eq, q0, q1, q2, q3, q4, q5, q6, q10, q100, br_Tr, br_Fa, iI_s, iI_n, bI_q0, bI_q1, or_true, true_or, not_true_eq_false, not_false_eq_true, nI_l, ge64, Nat.lt_irrefl, Nat.add_sub_cancel, Nat.not_lt_zero, lN_0, lN_1e4, lN_1e6, lN_1e3, lN_add, lN_mul, lN_ltI, lN_leI, lN_eqI, lN_i, lcE, lcLe, lcLt, lN_div, q7, q12, q20, q99, q200, q999, q1e4, if_true, if_false, Nat.le_refl, q8, q11, q16, q18, q32, q44, q48, q57, q59, q97, q122, q900]
  refine d35 hG h ?_
  try simp (disch := omega) only [h.1.1, h.1.2.1.all, h.2.1.1, h.2.2.1.all, h.2.2.2.2.1.1.all, h.2.2.2.2.1.all, h.2.2.2.2.2.1.1, h.2.2.2.2.2.1.2, wr_s, in_nI, clN, ti_z, ti_l, true_and, and_true, kI, zI, rI, kL, zL, rL, kR, zR, nnI, nnL, nnR, iL, iR, lI, lR, exi, exl, exv, eq_self, nI_add, nI_mul, nI_sub, nI_ltI, nI_leI, nI_eq, q0, q1, q2, q3, q4, q5, q6, q10, q100, br_Tr, br_Fa, iI_s, iI_n, bI_q0, bI_q1, or_true, true_or, not_true_eq_false, not_false_eq_true, nI_l, ge64, Nat.lt_irrefl, Nat.add_sub_cancel, Nat.not_lt_zero, lN_0, lN_1e4, lN_1e6, lN_1e3, lN_add, lN_mul, lN_ltI, lN_leI, lN_eqI, lN_i, lcE, lcLe, lcLt, lN_div, q7, q12, q20, q99, q200, q999, q1e4, if_true, if_false, Nat.le_refl, q8, q11, q16, q18, q32, q44, q48, q57, q59, q97, q122, q900]
  refine ax_brc (fun e => ?_) (fun e => ?_)
  · rw [if_neg (by rw [e]; exact Bool.false_ne_true)] at q
    refine d32 h (fun μ1 f1 h1 => ?_)
    try simp (disch := omega) only [wr_s, in_nI, clN, ti_z, ti_l, true_and, and_true, kI, zI, rI, kL, zL, rL, kR, zR, nnI, nnL, nnR, iL, iR, lI, lR, exi, exl, exv, eq_self, nI_add, nI_mul, nI_sub, nI_ltI, nI_leI, nI_eq, q0, q1, q2, q3, q4, q5, q6, q10, q100, br_Tr, br_Fa, iI_s, iI_n, bI_q0, bI_q1, or_true, true_or, not_true_eq_false, not_false_eq_true, nI_l, ge64, Nat.lt_irrefl, Nat.add_sub_cancel, Nat.not_lt_zero, lN_0, lN_1e4, lN_1e6, lN_1e3, lN_add, lN_mul, lN_ltI, lN_leI, lN_eqI, lN_i, lcE, lcLe, lcLt, lN_div, q7, q12, q20, q99, q200, q999, q1e4, if_true, if_false, Nat.le_refl, q8, q11, q16, q18, q32, q44, q48, q57, q59, q97, q122, q900]
    exact q _ _ (f1.mono (fun b q => by have q : b = 150 := q; omega)) ⟨rfl, h1⟩
  rw [if_pos (by simpa using e)] at q
  refine d29 h h.w ?_
  cases hk : fnd (pM s) (tW s) with
  | some i =>
    rw [hk] at q
    try simp (disch := omega) only [h.1.1, h.1.2.1.all, h.2.1.1, h.2.2.1.all, h.2.2.2.2.1.1.all, h.2.2.2.2.1.all, h.2.2.2.2.2.1.1, h.2.2.2.2.2.1.2, Option.isSome_some, wr_s, in_nI, clN, ti_z, ti_l, true_and, and_true, kI, zI, rI, kL, zL, rL, kR, zR, nnI, nnL, nnR, iL, iR, lI, lR, exi, exl, exv, eq_self, nI_add, nI_mul, nI_sub, nI_ltI, nI_leI, nI_eq, q0, q1, q2, q3, q4, q5, q6, q10, q100, br_Tr, br_Fa, iI_s, iI_n, bI_q0, bI_q1, or_true, true_or, not_true_eq_false, not_false_eq_true, nI_l, ge64, Nat.lt_irrefl, Nat.add_sub_cancel, Nat.not_lt_zero, lN_0, lN_1e4, lN_1e6, lN_1e3, lN_add, lN_mul, lN_ltI, lN_leI, lN_eqI, lN_i, lcE, lcLe, lcLt, lN_div, q7, q12, q20, q99, q200, q999, q1e4, if_true, if_false, Nat.le_refl, q8, q11, q16, q18, q32, q44, q48, q57, q59, q97, q122, q900]
    refine ax_brf (by decide) ?_
    refine d32 h (fun μ1 f1 h1 => ?_)
    try simp (disch := omega) only [wr_s, in_nI, clN, ti_z, ti_l, true_and, and_true, kI, zI, rI, kL, zL, rL, kR, zR, nnI, nnL, nnR, iL, iR, lI, lR, exi, exl, exv, eq_self, nI_add, nI_mul, nI_sub, nI_ltI, nI_leI, nI_eq, q0, q1, q2, q3, q4, q5, q6, q10, q100, br_Tr, br_Fa, iI_s, iI_n, bI_q0, bI_q1, or_true, true_or, not_true_eq_false, not_false_eq_true, nI_l, ge64, Nat.lt_irrefl, Nat.add_sub_cancel, Nat.not_lt_zero, lN_0, lN_1e4, lN_1e6, lN_1e3, lN_add, lN_mul, lN_ltI, lN_leI, lN_eqI, lN_i, lcE, lcLe, lcLt, lN_div, q7, q12, q20, q99, q200, q999, q1e4, if_true, if_false, Nat.le_refl, q8, q11, q16, q18, q32, q44, q48, q57, q59, q97, q122, q900]
    exact q _ _ (f1.mono (fun b q => by have q : b = 150 := q; omega)) ⟨rfl, h1⟩
  | none =>
    rw [hk] at q
    try simp (disch := omega) only [h.1.1, h.1.2.1.all, h.2.1.1, h.2.2.1.all, h.2.2.2.2.1.1.all, h.2.2.2.2.1.all, h.2.2.2.2.2.1.1, h.2.2.2.2.2.1.2, Option.isSome_none, wr_s, in_nI, clN, ti_z, ti_l, true_and, and_true, kI, zI, rI, kL, zL, rL, kR, zR, nnI, nnL, nnR, iL, iR, lI, lR, exi, exl, exv, eq_self, nI_add, nI_mul, nI_sub, nI_ltI, nI_leI, nI_eq, q0, q1, q2, q3, q4, q5, q6, q10, q100, br_Tr, br_Fa, iI_s, iI_n, bI_q0, bI_q1, or_true, true_or, not_true_eq_false, not_false_eq_true, nI_l, ge64, Nat.lt_irrefl, Nat.add_sub_cancel, Nat.not_lt_zero, lN_0, lN_1e4, lN_1e6, lN_1e3, lN_add, lN_mul, lN_ltI, lN_leI, lN_eqI, lN_i, lcE, lcLe, lcLt, lN_div, q7, q12, q20, q99, q200, q999, q1e4, if_true, if_false, Nat.le_refl, q8, q11, q16, q18, q32, q44, q48, q57, q59, q97, q122, q900]
    refine d27 (so := so) (nu := nu) (w := tW s) h hc (fun μ1 f1 h1 h2 => ?_)
    have h3 : RS μ1 M n p (s.1, pL s, nAdd (pM s) (tW s) so nu) := ⟨h.1.fq f1 (by decide), ⟨by rw [f1.R]; exact h.2.1.1, h.2.1.2⟩, h1, h.2.2.2.1, h.2.2.2.2.1.fq h.2.2.2.2.2.2.2 f1 (fun b q => by have q : 150 ≤ b ∧ b < 156 := q; omega), h2, h.2.2.2.2.2.2.1.add hc h.w hs hn hk, h.2.2.2.2.2.2.2⟩
    try simp (disch := omega) only [h3.1.1, h3.1.2.1.all, h3.2.1.1, h3.2.2.1.all, h3.2.2.2.2.1.1.all, h3.2.2.2.2.1.all, h3.2.2.2.2.2.1.1, h3.2.2.2.2.2.1.2, wr_s, in_nI, clN, ti_z, ti_l, true_and, and_true, kI, zI, rI, kL, zL, rL, kR, zR, nnI, nnL, nnR, iL, iR, lI, lR, exi, exl, exv, eq_self, nI_add, nI_mul, nI_sub, nI_ltI, nI_leI, nI_eq, q0, q1, q2, q3, q4, q5, q6, q10, q100, br_Tr, br_Fa, iI_s, iI_n, bI_q0, bI_q1, or_true, true_or, not_true_eq_false, not_false_eq_true, nI_l, ge64, Nat.lt_irrefl, Nat.add_sub_cancel, Nat.not_lt_zero, lN_0, lN_1e4, lN_1e6, lN_1e3, lN_add, lN_mul, lN_ltI, lN_leI, lN_eqI, lN_i, lcE, lcLe, lcLt, lN_div, q7, q12, q20, q99, q200, q999, q1e4, if_true, if_false, Nat.le_refl, q8, q11, q16, q18, q32, q44, q48, q57, q59, q97, q122, q900]
    refine e105 h3 (fun μ2 f2 h4 => ?_)
    exact q _ _ (f1.trans (f2.mono (fun b q => by have q : b = 155 := q; omega))) ⟨rfl, h4⟩
end T3
