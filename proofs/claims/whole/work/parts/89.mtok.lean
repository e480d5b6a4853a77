/-! the model: tokens -/
def FK (P : Nat → Nat → Prop) (μ μ' : ax_M) : Prop := μ'.1 = μ.1 ∧ μ'.2.1 = μ.2.1 ∧ μ'.2.2.2.2 = μ.2.2.2.2 ∧ ∀ b k, ¬ P b k → gI μ' b k = gI μ b k ∧ gL μ' b k = gL μ b k
theorem FK.refl (P : Nat → Nat → Prop) (μ : ax_M) : FK P μ μ := ⟨rfl, rfl, rfl, fun _ _ _ => ⟨rfl, rfl⟩⟩
theorem FK.trans {P : Nat → Nat → Prop} {μ μ1 μ2 : ax_M} (h : FK P μ μ1) (k : FK P μ1 μ2) : FK P μ μ2 := ⟨k.1.trans h.1, k.2.1.trans h.2.1, k.2.2.1.trans h.2.2.1, fun b j hn => ⟨((k.2.2.2 b j hn).1).trans (h.2.2.2 b j hn).1, ((k.2.2.2 b j hn).2).trans (h.2.2.2 b j hn).2⟩⟩
theorem FK.mono {P P' : Nat → Nat → Prop} {μ μ1 : ax_M} (h : FK P μ μ1) (hp : ∀ b k, P b k → P' b k) : FK P' μ μ1 := ⟨h.1, h.2.1, h.2.2.1, fun b j hn => h.2.2.2 b j (fun q => hn (hp b j q))⟩
theorem FK.put {P : Nat → Nat → Prop} {μ μ1 : ax_M} (h : FK P μ μ1) {a k : Nat} {v : Int32} (hp : P a k) : FK P μ (sI μ1 a k v) := ⟨h.1, h.2.1, h.2.2.1, fun b j hn => ⟨by
  rw [iI, if_neg (fun q => hn (by rw [q.1, q.2]; exact hp))]; exact (h.2.2.2 b j hn).1, (h.2.2.2 b j hn).2⟩⟩
theorem FK.putL {P : Nat → Nat → Prop} {μ μ1 : ax_M} (h : FK P μ μ1) {a k : Nat} {v : Int64} (hp : P a k) : FK P μ (sL μ1 a k v) := ⟨h.1, h.2.1, h.2.2.1, fun b j hn => ⟨(h.2.2.2 b j hn).1, by
  rw [lL, if_neg (fun q => hn (by rw [q.1, q.2]; exact hp))]; exact (h.2.2.2 b j hn).2⟩⟩
theorem FK.K {P : Nat → Nat → Prop} {μ μ1 : ax_M} (h : FK P μ μ1) (a : Nat) : mK μ1 a = mK μ a := by unfold mK; rw [h.2.1]
theorem FK.Z {P : Nat → Nat → Prop} {μ μ1 : ax_M} (h : FK P μ μ1) (a : Nat) : mZ μ1 a = mZ μ a := by unfold mZ; rw [h.2.1]
theorem FK.R {P : Nat → Nat → Prop} {μ μ1 : ax_M} (h : FK P μ μ1) (a k : Nat) : gR μ1 a k = gR μ a k := by unfold gR; rw [h.2.2.1]
theorem FK.I {P : Nat → Nat → Prop} {μ μ1 : ax_M} (h : FK P μ μ1) {a k : Nat} (hn : ¬ P a k) : gI μ1 a k = gI μ a k := (h.2.2.2 a k hn).1
theorem FK.L {P : Nat → Nat → Prop} {μ μ1 : ax_M} (h : FK P μ μ1) {a k : Nat} (hn : ¬ P a k) : gL μ1 a k = gL μ a k := (h.2.2.2 a k hn).2
theorem isMo.fk {P : Nat → Nat → Prop} {μ μ1 : ax_M} (hc : isMo μ) (h : FK P μ μ1) : isMo μ1 := by
  obtain ⟨n, kz, i, lo, r⟩ := μ
  obtain ⟨n1, kz1, i1, lo1, r1⟩ := μ1
  obtain ⟨-, rfl, rfl, -⟩ : n1 = n ∧ kz1 = kz ∧ r1 = r ∧ _ := h
  exact hc
theorem isML.fk {P : Nat → Nat → Prop} {μ μ1 : ax_M} {N : Nat} (hc : isML μ N) (h : FK P μ μ1) : isML μ1 N := by
  obtain ⟨n, kz, i, lo, r⟩ := μ
  obtain ⟨n1, kz1, i1, lo1, r1⟩ := μ1
  obtain ⟨-, rfl, rfl, -⟩ : n1 = n ∧ kz1 = kz ∧ r1 = r ∧ _ := h
  exact hc
def mkd (k : Nat) : Nat := if k = 0 then 1 else if k = 1 then 2 else if k = 2 then 3 else if k = 5 then 0 else 4
theorem mkd_le (k : Nat) : mkd k ≤ 4 := by unfold mkd; split <;> (try split) <;> (try split) <;> (try split) <;> omega
def MTk (μ : ax_M) (t : Tk) : Prop := (t.1 ≠ 5 → gI μ 332 8 = nI t.2.2.1) ∧ gI μ 332 9 = nI (mkd t.1) ∧ gI μ 332 10 = nI t.2.1 ∧ (t.1 = 3 → gI μ 332 11 = nI 59) ∧ (t.1 = 4 → gI μ 332 11 = nI 44) ∧ (t.1 = 2 → gI μ 332 12 = nI t.2.2.2.2) ∧ (t.1 = 1 → gL μ 332 15 = lN (cdB 32 96 t.2.2.2.1))
def MTp (μ : ax_M) (p : Nat → Nat) (n : Nat) : Prop := isMo μ ∧ gI μ 332 7 = nI n ∧ n ≤ 900 ∧ ∀ i, i < n → gI μ 333 i &&& 255 = nI (p i) ∧ p i < 256
abbrev PT (b k : Nat) : Prop := b = 332 ∧ (8 ≤ k ∧ k ≠ 13)
abbrev PX (b k : Nat) : Prop := b = 332 ∧ 8 ≤ k
theorem MTp.fk {P : Nat → Nat → Prop} {μ μ1 : ax_M} {p : Nat → Nat} {n : Nat} (h : MTp μ p n) (f : FK P μ μ1) (hp : ∀ b k, P b k → (b = 332 ∧ 8 ≤ k) ∨ 341 ≤ b) : MTp μ1 p n :=
  ⟨h.1.fk f, by rw [f.I (fun q => by have := hp _ _ q; omega)]; exact h.2.1, h.2.2.1, fun i hi => by rw [f.I (fun q => by have := hp _ _ q; omega)]; exact h.2.2.2 i hi⟩
def bA (p : Nat → Nat) (n i : Nat) : Int32 := if i < n then nI (p i) else -nI 1
theorem lN_32 : (32 : Int64) = lN 32 := by decide +kernel
section V1
variable {l : Launch} {G : ax_G} {μ : ax_M} {p : Nat → Nat} {n : Nat}
theorem n1_lt {b : Nat} (h : b < 2 ^ 31) : -nI 1 < nI b := by
  rw [Int32.lt_iff_toInt_lt, nI_toInt h]
  have : (-nI 1).toInt = -1 := by decide +kernel
  omega
theorem bA_eq {i c : Nat} (hp : i < n → p i < 256) (hc : c < 256) : (bA p n i = nI c) = (i < n ∧ p i = c) := by
  unfold bA
  by_cases h : i < n
  · have := hp h
    rw [if_pos h, nI_eq (by omega) (by omega)]
    exact propext ⟨fun e => ⟨h, e⟩, fun e => e.2⟩
  · rw [if_neg h]
    exact propext ⟨fun e => absurd e.symm (n1_ne (by omega)), fun e => absurd e.1 h⟩
theorem bA_n {i : Nat} (hp : i < n → p i < 256) : (bA p n i = -nI 1) = ¬ i < n := by
  unfold bA
  by_cases h : i < n
  · have := hp h
    rw [if_pos h]
    exact propext ⟨fun e => absurd e (n1_ne (by omega)), fun e => absurd h e⟩
  · rw [if_neg h]
    exact propext ⟨fun _ => h, fun _ => rfl⟩
theorem d49 {i : Nat} {K : Int32 → ax_M → Prop} (h : MTp μ p n) (hi : i ≤ n) (q : K (bA p n i) μ) : ax_CI l G 49 [ax_r (some 332), ax_i (nI i)] μ K := by
  have hn := h.2.2.1
  have h255 := h.2.2.2
  unfold bA at q
  refine ax_Ct.of (by decide) (Nat.le_of_ble_eq_true rfl) (sg49_0 l G _ 332 _ _ ?_)
  try simp (disch := omega) only [h.1.all, h.2.1, wr_s, in_nI, clN, ti_z, ti_l, true_and, and_true, kI, zI, rI, kL, zL, rL, kR, zR, nnI, nnL, nnR, iL, iR, lI, lR, exi, exl, exv, eq_self, nI_add, nI_mul, nI_sub, nI_ltI, nI_leI, nI_eq, q0, q1, q2, q3, q4, q5, q6, q10, q100, br_Tr, br_Fa, iI_s, iI_n, bI_q0, bI_q1, or_true, true_or, not_true_eq_false, not_false_eq_true, nI_l, ge64, Nat.lt_irrefl, Nat.add_sub_cancel, Nat.not_lt_zero, lN_0, lN_1e4, lN_1e6, lN_1e3, lN_add, lN_mul, lN_ltI, lN_leI, lN_eqI, lN_i, lcE, lcLe, lcLt, lN_div, q7, q12, q20, q99, q200, q999, q1e4, if_true, if_false, Nat.le_refl, q8, q11, q16, q18, q32, q44, q48, q57, q59, q97, q122, q900]
  refine ax_brc (fun c => ?_) (fun c => ?_)
  · rw [if_pos c] at q
    try simp (disch := omega) only [h.1.all, wr_s, in_nI, clN, ti_z, ti_l, true_and, and_true, kI, zI, rI, kL, zL, rL, kR, zR, nnI, nnL, nnR, iL, iR, lI, lR, exi, exl, exv, eq_self, nI_add, nI_mul, nI_sub, nI_ltI, nI_leI, nI_eq, q0, q1, q2, q3, q4, q5, q6, q10, q100, br_Tr, br_Fa, iI_s, iI_n, bI_q0, bI_q1, or_true, true_or, not_true_eq_false, not_false_eq_true, nI_l, ge64, Nat.lt_irrefl, Nat.add_sub_cancel, Nat.not_lt_zero, lN_0, lN_1e4, lN_1e6, lN_1e3, lN_add, lN_mul, lN_ltI, lN_leI, lN_eqI, lN_i, lcE, lcLe, lcLt, lN_div, q7, q12, q20, q99, q200, q999, q1e4, if_true, if_false, Nat.le_refl, q8, q11, q16, q18, q32, q44, q48, q57, q59, q97, q122, q900]
    rw [(h255 i c).1]
    exact q
  · rw [if_neg c] at q
    exact q
theorem d61 {i : Nat} {K : Int32 → ax_M → Prop} (hp : i < n → p i < 256) (q : K (bI (decide (i < n) && isLt p i)) μ) : ax_CI l G 61 [ax_i (bA p n i)] μ K := by
  refine ax_Ct.of (by decide) (Nat.le_of_ble_eq_true rfl) (sg61_0 l G _ _ _ ?_)
  unfold bA
  by_cases h : i < n
  · have := hp h
    rw [if_pos h]
    rw [decide_eq_true h, Bool.true_and] at q
    try simp (disch := omega) only [wr_s, in_nI, clN, ti_z, ti_l, true_and, and_true, kI, zI, rI, kL, zL, rL, kR, zR, nnI, nnL, nnR, iL, iR, lI, lR, exi, exl, exv, eq_self, nI_add, nI_mul, nI_sub, nI_ltI, nI_leI, nI_eq, q0, q1, q2, q3, q4, q5, q6, q10, q100, br_Tr, br_Fa, iI_s, iI_n, bI_q0, bI_q1, or_true, true_or, not_true_eq_false, not_false_eq_true, nI_l, ge64, Nat.lt_irrefl, Nat.add_sub_cancel, Nat.not_lt_zero, lN_0, lN_1e4, lN_1e6, lN_1e3, lN_add, lN_mul, lN_ltI, lN_leI, lN_eqI, lN_i, lcE, lcLe, lcLt, lN_div, q7, q12, q20, q99, q200, q999, q1e4, if_true, if_false, Nat.le_refl, q8, q11, q16, q18, q32, q44, q48, q57, q59, q97, q122, q900]
    refine ax_brc (fun c1 => ?_) (fun c1 => ax_brc (fun c2 => ?_) (fun c2 => ?_))
    · rw [show isLt p i = false by simp; omega] at q; exact q
    · rw [show isLt p i = true by simp; omega] at q; exact q
    · rw [show isLt p i = false by simp; omega] at q; exact q
  · rw [if_neg h]
    rw [decide_eq_false h, Bool.false_and] at q
    try simp (disch := omega) only [wr_s, in_nI, clN, ti_z, ti_l, true_and, and_true, kI, zI, rI, kL, zL, rL, kR, zR, nnI, nnL, nnR, iL, iR, lI, lR, exi, exl, exv, eq_self, nI_add, nI_mul, nI_sub, nI_ltI, nI_leI, nI_eq, q0, q1, q2, q3, q4, q5, q6, q10, q100, br_Tr, br_Fa, iI_s, iI_n, bI_q0, bI_q1, or_true, true_or, not_true_eq_false, not_false_eq_true, nI_l, ge64, Nat.lt_irrefl, Nat.add_sub_cancel, Nat.not_lt_zero, lN_0, lN_1e4, lN_1e6, lN_1e3, lN_add, lN_mul, lN_ltI, lN_leI, lN_eqI, lN_i, lcE, lcLe, lcLt, lN_div, q7, q12, q20, q99, q200, q999, q1e4, if_true, if_false, Nat.le_refl, q8, q11, q16, q18, q32, q44, q48, q57, q59, q97, q122, q900]
    exact ax_brt (n1_lt (by omega)) q
theorem d58 {i : Nat} {K : Int32 → ax_M → Prop} (hp : i < n → p i < 256) (q : K (bI (decide (i < n) && isDg p i)) μ) : ax_CI l G 58 [ax_i (bA p n i)] μ K := by
  refine ax_Ct.of (by decide) (Nat.le_of_ble_eq_true rfl) (sg58_0 l G _ _ _ ?_)
  unfold bA
  by_cases h : i < n
  · have := hp h
    rw [if_pos h]
    rw [decide_eq_true h, Bool.true_and] at q
    try simp (disch := omega) only [wr_s, in_nI, clN, ti_z, ti_l, true_and, and_true, kI, zI, rI, kL, zL, rL, kR, zR, nnI, nnL, nnR, iL, iR, lI, lR, exi, exl, exv, eq_self, nI_add, nI_mul, nI_sub, nI_ltI, nI_leI, nI_eq, q0, q1, q2, q3, q4, q5, q6, q10, q100, br_Tr, br_Fa, iI_s, iI_n, bI_q0, bI_q1, or_true, true_or, not_true_eq_false, not_false_eq_true, nI_l, ge64, Nat.lt_irrefl, Nat.add_sub_cancel, Nat.not_lt_zero, lN_0, lN_1e4, lN_1e6, lN_1e3, lN_add, lN_mul, lN_ltI, lN_leI, lN_eqI, lN_i, lcE, lcLe, lcLt, lN_div, q7, q12, q20, q99, q200, q999, q1e4, if_true, if_false, Nat.le_refl, q8, q11, q16, q18, q32, q44, q48, q57, q59, q97, q122, q900]
    refine ax_brc (fun c1 => ?_) (fun c1 => ax_brc (fun c2 => ?_) (fun c2 => ?_))
    · rw [show isDg p i = false by simp; omega] at q; exact q
    · rw [show isDg p i = true by simp; omega] at q; exact q
    · rw [show isDg p i = false by simp; omega] at q; exact q
  · rw [if_neg h]
    rw [decide_eq_false h, Bool.false_and] at q
    try simp (disch := omega) only [wr_s, in_nI, clN, ti_z, ti_l, true_and, and_true, kI, zI, rI, kL, zL, rL, kR, zR, nnI, nnL, nnR, iL, iR, lI, lR, exi, exl, exv, eq_self, nI_add, nI_mul, nI_sub, nI_ltI, nI_leI, nI_eq, q0, q1, q2, q3, q4, q5, q6, q10, q100, br_Tr, br_Fa, iI_s, iI_n, bI_q0, bI_q1, or_true, true_or, not_true_eq_false, not_false_eq_true, nI_l, ge64, Nat.lt_irrefl, Nat.add_sub_cancel, Nat.not_lt_zero, lN_0, lN_1e4, lN_1e6, lN_1e3, lN_add, lN_mul, lN_ltI, lN_leI, lN_eqI, lN_i, lcE, lcLe, lcLt, lN_div, q7, q12, q20, q99, q200, q999, q1e4, if_true, if_false, Nat.le_refl, q8, q11, q16, q18, q32, q44, q48, q57, q59, q97, q122, q900]
    exact ax_brt (n1_lt (by omega)) q
theorem d109o {K : ax_M → Prop} (h : isMo μ) (h9 : gI μ 332 9 = nI 5) (q : K μ) : ax_CV l G 109 [ax_r (some 332)] μ K := by
  refine ax_Ct.of (by decide) (Nat.le_of_ble_eq_true rfl) (sg109_0 l G _ 332 _ ?_)
  try simp (disch := omega) only [h.all, h9, wr_s, in_nI, clN, ti_z, ti_l, true_and, and_true, kI, zI, rI, kL, zL, rL, kR, zR, nnI, nnL, nnR, iL, iR, lI, lR, exi, exl, exv, eq_self, nI_add, nI_mul, nI_sub, nI_ltI, nI_leI, nI_eq, q0, q1, q2, q3, q4, q5, q6, q10, q100, br_Tr, br_Fa, iI_s, iI_n, bI_q0, bI_q1, or_true, true_or, not_true_eq_false, not_false_eq_true, nI_l, ge64, Nat.lt_irrefl, Nat.add_sub_cancel, Nat.not_lt_zero, lN_0, lN_1e4, lN_1e6, lN_1e3, lN_add, lN_mul, lN_ltI, lN_leI, lN_eqI, lN_i, lcE, lcLe, lcLt, lN_div, q7, q12, q20, q99, q200, q999, q1e4, if_true, if_false, Nat.le_refl, q8, q11, q16, q18, q32, q44, q48, q57, q59, q97, q122, q900]
  exact q
/-- over letters -/
theorem g109_89 {s : Nat} {K : ax_M → Prop} (h : MTp μ p n) (hs : s ≤ n) (h8 : gI μ 332 8 = nI s) (h9 : gI μ 332 9 = nI 0) (h10 : gI μ 332 10 = nI s) (h15 : gL μ 332 15 = lN 0) (q : ∀ μ', FK PT μ μ' → MTk μ' (if en (isLt p) n s - s ≤ 8 then (1, s, en (isLt p) n s, wdN p s (en (isLt p) n s - s), 0) else (5, s, en (isLt p) n s, [], 0)) → K μ') : (ax_Rw l G ax_h109 (ax_E G ax_h109 (fun x μ' => x = none ∧ K μ')) 89 [(0, ax_r (some 332)), (2, ax_i (nI 0))] [] 0 0 μ) := by
  have hn := h.2.2.1
  have hpp : ∀ i, i < n → p i < 256 := fun i hi => (h.2.2.2 i hi).2
  refine up_to (P := fun i => s ≤ i → ∀ (μi : ax_M), en (isLt p) n s = en (isLt p) n i → FK PT μ μi → gI μi 332 8 = nI i → gI μi 332 9 = nI 0 → gI μi 332 10 = nI s → (i - s ≤ 8 → gL μi 332 15 = lN (cdB 32 96 (wdN p s (i - s)))) → (ax_Rw l G ax_h109 (ax_E G ax_h109 (fun x μ' => x = none ∧ K μ')) 89 [(0, ax_r (some 332)), (2, ax_i (nI (i - s)))] [] 0 0 μi)) (n + 1) (fun hi μi he f g8 g9 g10 g15 => ?_) (fun i hi ih hsi μi he f g8 g9 g10 g15 => ?_) s (by omega) (Nat.le_refl _) μ rfl (FK.refl _ _) h8 h9 h10 (fun _ => by rw [Nat.sub_self]; exact h15) |> fun z => by rw [Nat.sub_self] at z; exact z
  · exfalso
    have := (en_ge (P := isLt p) hs).2
    rw [he, en_e (by omega)] at this
    omega
  · have ht := h.fk f (fun b k q => Or.inl ⟨q.1, q.2.1⟩)
    have hin : i ≤ n := by omega
    refine sg109_89 l G _ 332 _ _ ?_
    try simp (disch := omega) only [ht.1.all, g8, wr_s, in_nI, clN, ti_z, ti_l, true_and, and_true, kI, zI, rI, kL, zL, rL, kR, zR, nnI, nnL, nnR, iL, iR, lI, lR, exi, exl, exv, eq_self, nI_add, nI_mul, nI_sub, nI_ltI, nI_leI, nI_eq, q0, q1, q2, q3, q4, q5, q6, q10, q100, br_Tr, br_Fa, iI_s, iI_n, bI_q0, bI_q1, or_true, true_or, not_true_eq_false, not_false_eq_true, nI_l, ge64, Nat.lt_irrefl, Nat.add_sub_cancel, Nat.not_lt_zero, lN_0, lN_1e4, lN_1e6, lN_1e3, lN_add, lN_mul, lN_ltI, lN_leI, lN_eqI, lN_i, lcE, lcLe, lcLt, lN_div, q7, q12, q20, q99, q200, q999, q1e4, if_true, if_false, Nat.le_refl, q8, q11, q16, q18, q32, q44, q48, q57, q59, q97, q122, q900]
    refine d49 ht hin ?_
    refine d61 (hpp i) ?_
    try simp (disch := omega) only [ht.1.all, g8, wr_s, in_nI, clN, ti_z, ti_l, true_and, and_true, kI, zI, rI, kL, zL, rL, kR, zR, nnI, nnL, nnR, iL, iR, lI, lR, exi, exl, exv, eq_self, nI_add, nI_mul, nI_sub, nI_ltI, nI_leI, nI_eq, q0, q1, q2, q3, q4, q5, q6, q10, q100, br_Tr, br_Fa, iI_s, iI_n, bI_q0, bI_q1, or_true, true_or, not_true_eq_false, not_false_eq_true, nI_l, ge64, Nat.lt_irrefl, Nat.add_sub_cancel, Nat.not_lt_zero, lN_0, lN_1e4, lN_1e6, lN_1e3, lN_add, lN_mul, lN_ltI, lN_leI, lN_eqI, lN_i, lcE, lcLe, lcLt, lN_div, q7, q12, q20, q99, q200, q999, q1e4, if_true, if_false, Nat.le_refl, q8, q11, q16, q18, q32, q44, q48, q57, q59, q97, q122, q900]
    cases hc : (decide (i < n) && isLt p i)
    · refine ax_brt rfl ?_
      have hen : en (isLt p) n s = i := by rw [he, en_e (fun q => by rw [decide_eq_true q.1, q.2] at hc; cases hc)]
      rw [hen] at q
      refine ax_brc (fun c8 => ?_) (fun c8 => ?_)
      · rw [if_pos c8] at q
        refine q _ (f.put ⟨rfl, by omega⟩) ⟨fun _ => ?_, ?_, ?_, (fun e => by cases e), (fun e => by cases e), (fun e => by cases e), fun _ => ?_⟩
        · try simp (disch := omega) only [wr_s, in_nI, clN, ti_z, ti_l, true_and, and_true, kI, zI, rI, kL, zL, rL, kR, zR, nnI, nnL, nnR, iL, iR, lI, lR, exi, exl, exv, eq_self, nI_add, nI_mul, nI_sub, nI_ltI, nI_leI, nI_eq, q0, q1, q2, q3, q4, q5, q6, q10, q100, br_Tr, br_Fa, iI_s, iI_n, bI_q0, bI_q1, or_true, true_or, not_true_eq_false, not_false_eq_true, nI_l, ge64, Nat.lt_irrefl, Nat.add_sub_cancel, Nat.not_lt_zero, lN_0, lN_1e4, lN_1e6, lN_1e3, lN_add, lN_mul, lN_ltI, lN_leI, lN_eqI, lN_i, lcE, lcLe, lcLt, lN_div, q7, q12, q20, q99, q200, q999, q1e4, if_true, if_false, Nat.le_refl, q8, q11, q16, q18, q32, q44, q48, q57, q59, q97, q122, q900]; exact g8
        · try simp (disch := omega) only [wr_s, in_nI, clN, ti_z, ti_l, true_and, and_true, kI, zI, rI, kL, zL, rL, kR, zR, nnI, nnL, nnR, iL, iR, lI, lR, exi, exl, exv, eq_self, nI_add, nI_mul, nI_sub, nI_ltI, nI_leI, nI_eq, q0, q1, q2, q3, q4, q5, q6, q10, q100, br_Tr, br_Fa, iI_s, iI_n, bI_q0, bI_q1, or_true, true_or, not_true_eq_false, not_false_eq_true, nI_l, ge64, Nat.lt_irrefl, Nat.add_sub_cancel, Nat.not_lt_zero, lN_0, lN_1e4, lN_1e6, lN_1e3, lN_add, lN_mul, lN_ltI, lN_leI, lN_eqI, lN_i, lcE, lcLe, lcLt, lN_div, q7, q12, q20, q99, q200, q999, q1e4, if_true, if_false, Nat.le_refl, q8, q11, q16, q18, q32, q44, q48, q57, q59, q97, q122, q900]; rfl
        · try simp (disch := omega) only [wr_s, in_nI, clN, ti_z, ti_l, true_and, and_true, kI, zI, rI, kL, zL, rL, kR, zR, nnI, nnL, nnR, iL, iR, lI, lR, exi, exl, exv, eq_self, nI_add, nI_mul, nI_sub, nI_ltI, nI_leI, nI_eq, q0, q1, q2, q3, q4, q5, q6, q10, q100, br_Tr, br_Fa, iI_s, iI_n, bI_q0, bI_q1, or_true, true_or, not_true_eq_false, not_false_eq_true, nI_l, ge64, Nat.lt_irrefl, Nat.add_sub_cancel, Nat.not_lt_zero, lN_0, lN_1e4, lN_1e6, lN_1e3, lN_add, lN_mul, lN_ltI, lN_leI, lN_eqI, lN_i, lcE, lcLe, lcLt, lN_div, q7, q12, q20, q99, q200, q999, q1e4, if_true, if_false, Nat.le_refl, q8, q11, q16, q18, q32, q44, q48, q57, q59, q97, q122, q900]; exact g10
        · exact g15 c8
      · rw [if_neg c8] at q
        exact q _ f ⟨(fun e => absurd rfl e), g9, g10, (fun e => by cases e), (fun e => by cases e), (fun e => by cases e), (fun e => by cases e)⟩
    · rw [Bool.and_eq_true, decide_eq_true_eq] at hc
      have hl : 97 ≤ p i ∧ p i ≤ 122 := by have := hc.2; simpa using this
      refine ax_brf (by decide) ?_
      have hen : en (isLt p) n s = en (isLt p) n (i + 1) := by rw [he, en_s hc.1 hc.2]
      refine ax_brc (fun c8 => ?_) (fun c8 => ?_)
      · refine d49 ht hin ?_
        rw [show bA p n i = nI (p i) from if_pos hc.1, g15 (by omega), lN_32]
        try simp (disch := omega) only [ht.1.all, g8, wr_s, in_nI, clN, ti_z, ti_l, true_and, and_true, kI, zI, rI, kL, zL, rL, kR, zR, nnI, nnL, nnR, iL, iR, lI, lR, exi, exl, exv, eq_self, nI_add, nI_mul, nI_sub, nI_ltI, nI_leI, nI_eq, q0, q1, q2, q3, q4, q5, q6, q10, q100, br_Tr, br_Fa, iI_s, iI_n, bI_q0, bI_q1, or_true, true_or, not_true_eq_false, not_false_eq_true, nI_l, ge64, Nat.lt_irrefl, Nat.add_sub_cancel, Nat.not_lt_zero, lN_0, lN_1e4, lN_1e6, lN_1e3, lN_add, lN_mul, lN_ltI, lN_leI, lN_eqI, lN_i, lcE, lcLe, lcLt, lN_div, q7, q12, q20, q99, q200, q999, q1e4, if_true, if_false, Nat.le_refl, q8, q11, q16, q18, q32, q44, q48, q57, q59, q97, q122, q900]
        have ih := ih (by omega) (sI (sL μi 332 15 (lN (cdB 32 96 (wdN p s (i + 1 - s))))) 332 8 (nI (i + 1))) hen ((f.putL ⟨rfl, by omega⟩).put ⟨rfl, by omega⟩) (iI_s _ _ _ _) (by try simp (disch := omega) only [wr_s, in_nI, clN, ti_z, ti_l, true_and, and_true, kI, zI, rI, kL, zL, rL, kR, zR, nnI, nnL, nnR, iL, iR, lI, lR, exi, exl, exv, eq_self, nI_add, nI_mul, nI_sub, nI_ltI, nI_leI, nI_eq, q0, q1, q2, q3, q4, q5, q6, q10, q100, br_Tr, br_Fa, iI_s, iI_n, bI_q0, bI_q1, or_true, true_or, not_true_eq_false, not_false_eq_true, nI_l, ge64, Nat.lt_irrefl, Nat.add_sub_cancel, Nat.not_lt_zero, lN_0, lN_1e4, lN_1e6, lN_1e3, lN_add, lN_mul, lN_ltI, lN_leI, lN_eqI, lN_i, lcE, lcLe, lcLt, lN_div, q7, q12, q20, q99, q200, q999, q1e4, if_true, if_false, Nat.le_refl, q8, q11, q16, q18, q32, q44, q48, q57, q59, q97, q122, q900]; exact g9) (by try simp (disch := omega) only [wr_s, in_nI, clN, ti_z, ti_l, true_and, and_true, kI, zI, rI, kL, zL, rL, kR, zR, nnI, nnL, nnR, iL, iR, lI, lR, exi, exl, exv, eq_self, nI_add, nI_mul, nI_sub, nI_ltI, nI_leI, nI_eq, q0, q1, q2, q3, q4, q5, q6, q10, q100, br_Tr, br_Fa, iI_s, iI_n, bI_q0, bI_q1, or_true, true_or, not_true_eq_false, not_false_eq_true, nI_l, ge64, Nat.lt_irrefl, Nat.add_sub_cancel, Nat.not_lt_zero, lN_0, lN_1e4, lN_1e6, lN_1e3, lN_add, lN_mul, lN_ltI, lN_leI, lN_eqI, lN_i, lcE, lcLe, lcLt, lN_div, q7, q12, q20, q99, q200, q999, q1e4, if_true, if_false, Nat.le_refl, q8, q11, q16, q18, q32, q44, q48, q57, q59, q97, q122, q900]; exact g10) (fun _ => by rw [lI, lL_s])
        rw [show i + 1 - s = (i - s) + 1 by omega, wdN_s, cdB_c, show s + (i - s) = i by omega, show p i - 96 = p i - 97 + 1 by omega] at ih
        exact ih
      · have ih := ih (by omega) (sI μi 332 8 (nI (i + 1))) hen (f.put ⟨rfl, by omega⟩) (iI_s _ _ _ _) (by try simp (disch := omega) only [wr_s, in_nI, clN, ti_z, ti_l, true_and, and_true, kI, zI, rI, kL, zL, rL, kR, zR, nnI, nnL, nnR, iL, iR, lI, lR, exi, exl, exv, eq_self, nI_add, nI_mul, nI_sub, nI_ltI, nI_leI, nI_eq, q0, q1, q2, q3, q4, q5, q6, q10, q100, br_Tr, br_Fa, iI_s, iI_n, bI_q0, bI_q1, or_true, true_or, not_true_eq_false, not_false_eq_true, nI_l, ge64, Nat.lt_irrefl, Nat.add_sub_cancel, Nat.not_lt_zero, lN_0, lN_1e4, lN_1e6, lN_1e3, lN_add, lN_mul, lN_ltI, lN_leI, lN_eqI, lN_i, lcE, lcLe, lcLt, lN_div, q7, q12, q20, q99, q200, q999, q1e4, if_true, if_false, Nat.le_refl, q8, q11, q16, q18, q32, q44, q48, q57, q59, q97, q122, q900]; exact g9) (by try simp (disch := omega) only [wr_s, in_nI, clN, ti_z, ti_l, true_and, and_true, kI, zI, rI, kL, zL, rL, kR, zR, nnI, nnL, nnR, iL, iR, lI, lR, exi, exl, exv, eq_self, nI_add, nI_mul, nI_sub, nI_ltI, nI_leI, nI_eq, q0, q1, q2, q3, q4, q5, q6, q10, q100, br_Tr, br_Fa, iI_s, iI_n, bI_q0, bI_q1, or_true, true_or, not_true_eq_false, not_false_eq_true, nI_l, ge64, Nat.lt_irrefl, Nat.add_sub_cancel, Nat.not_lt_zero, lN_0, lN_1e4, lN_1e6, lN_1e3, lN_add, lN_mul, lN_ltI, lN_leI, lN_eqI, lN_i, lcE, lcLe, lcLt, lN_div, q7, q12, q20, q99, q200, q999, q1e4, if_true, if_false, Nat.le_refl, q8, q11, q16, q18, q32, q44, q48, q57, q59, q97, q122, q900]; exact g10) (fun e => by omega)
        rw [show i + 1 - s = (i - s) + 1 by omega] at ih
        exact ih
/-- over digits -/
theorem g109_178 {s : Nat} {K : ax_M → Prop} (h : MTp μ p n) (hs : s ≤ n) (h8 : gI μ 332 8 = nI s) (h9 : gI μ 332 9 = nI 0) (h10 : gI μ 332 10 = nI s) (h12 : gI μ 332 12 = nI 0) (q : ∀ μ', FK PT μ μ' → MTk μ' (if en (isDg p) n s - s ≤ 3 then (2, s, en (isDg p) n s, [], cdB 10 48 (wdN p s (en (isDg p) n s - s))) else (5, s, en (isDg p) n s, [], 0)) → K μ') : (ax_Rw l G ax_h109 (ax_E G ax_h109 (fun x μ' => x = none ∧ K μ')) 178 [(0, ax_r (some 332)), (2, ax_i (nI 0))] [] 0 0 μ) := by
  have hn := h.2.2.1
  have hpp : ∀ i, i < n → p i < 256 := fun i hi => (h.2.2.2 i hi).2
  refine up_to (P := fun i => s ≤ i → ∀ (μi : ax_M), en (isDg p) n s = en (isDg p) n i → FK PT μ μi → gI μi 332 8 = nI i → gI μi 332 9 = nI 0 → gI μi 332 10 = nI s → (i - s ≤ 3 → gI μi 332 12 = nI (cdB 10 48 (wdN p s (i - s)))) → (ax_Rw l G ax_h109 (ax_E G ax_h109 (fun x μ' => x = none ∧ K μ')) 178 [(0, ax_r (some 332)), (2, ax_i (nI (i - s)))] [] 0 0 μi)) (n + 1) (fun hi μi he f g8 g9 g10 g12 => ?_) (fun i hi ih hsi μi he f g8 g9 g10 g12 => ?_) s (by omega) (Nat.le_refl _) μ rfl (FK.refl _ _) h8 h9 h10 (fun _ => by rw [Nat.sub_self]; exact h12) |> fun z => by rw [Nat.sub_self] at z; exact z
  · exfalso
    have := (en_ge (P := isDg p) hs).2
    rw [he, en_e (by omega)] at this
    omega
  · have ht := h.fk f (fun b k q => Or.inl ⟨q.1, q.2.1⟩)
    have hin : i ≤ n := by omega
    refine sg109_178 l G _ 332 _ _ ?_
    try simp (disch := omega) only [ht.1.all, g8, wr_s, in_nI, clN, ti_z, ti_l, true_and, and_true, kI, zI, rI, kL, zL, rL, kR, zR, nnI, nnL, nnR, iL, iR, lI, lR, exi, exl, exv, eq_self, nI_add, nI_mul, nI_sub, nI_ltI, nI_leI, nI_eq, q0, q1, q2, q3, q4, q5, q6, q10, q100, br_Tr, br_Fa, iI_s, iI_n, bI_q0, bI_q1, or_true, true_or, not_true_eq_false, not_false_eq_true, nI_l, ge64, Nat.lt_irrefl, Nat.add_sub_cancel, Nat.not_lt_zero, lN_0, lN_1e4, lN_1e6, lN_1e3, lN_add, lN_mul, lN_ltI, lN_leI, lN_eqI, lN_i, lcE, lcLe, lcLt, lN_div, q7, q12, q20, q99, q200, q999, q1e4, if_true, if_false, Nat.le_refl, q8, q11, q16, q18, q32, q44, q48, q57, q59, q97, q122, q900]
    refine d49 ht hin ?_
    refine d58 (hpp i) ?_
    try simp (disch := omega) only [ht.1.all, g8, wr_s, in_nI, clN, ti_z, ti_l, true_and, and_true, kI, zI, rI, kL, zL, rL, kR, zR, nnI, nnL, nnR, iL, iR, lI, lR, exi, exl, exv, eq_self, nI_add, nI_mul, nI_ltI, nI_leI, nI_eq, q0, q1, q2, q3, q4, q5, q6, q10, q100, br_Tr, br_Fa, iI_s, iI_n, bI_q0, bI_q1, or_true, true_or, not_true_eq_false, not_false_eq_true, nI_l, ge64, Nat.lt_irrefl, Nat.add_sub_cancel, Nat.not_lt_zero, lN_0, lN_1e4, lN_1e6, lN_1e3, lN_add, lN_mul, lN_ltI, lN_leI, lN_eqI, lN_i, lcE, lcLe, lcLt, lN_div, q7, q12, q20, q99, q200, q999, q1e4, if_true, if_false, Nat.le_refl, q8, q11, q16, q18, q32, q44, q48, q57, q59, q97, q122, q900]
    cases hc : (decide (i < n) && isDg p i)
    · refine ax_brt rfl ?_
      have hen : en (isDg p) n s = i := by rw [he, en_e (fun q => by rw [decide_eq_true q.1, q.2] at hc; cases hc)]
      rw [hen] at q
      refine ax_brc (fun c8 => ?_) (fun c8 => ?_)
      · rw [if_pos c8] at q
        refine q _ (f.put ⟨rfl, by omega⟩) ⟨fun _ => ?_, ?_, ?_, (fun e => by cases e), (fun e => by cases e), fun _ => ?_, (fun e => by cases e)⟩
        · try simp (disch := omega) only [wr_s, in_nI, clN, ti_z, ti_l, true_and, and_true, kI, zI, rI, kL, zL, rL, kR, zR, nnI, nnL, nnR, iL, iR, lI, lR, exi, exl, exv, eq_self, nI_add, nI_mul, nI_sub, nI_ltI, nI_leI, nI_eq, q0, q1, q2, q3, q4, q5, q6, q10, q100, br_Tr, br_Fa, iI_s, iI_n, bI_q0, bI_q1, or_true, true_or, not_true_eq_false, not_false_eq_true, nI_l, ge64, Nat.lt_irrefl, Nat.add_sub_cancel, Nat.not_lt_zero, lN_0, lN_1e4, lN_1e6, lN_1e3, lN_add, lN_mul, lN_ltI, lN_leI, lN_eqI, lN_i, lcE, lcLe, lcLt, lN_div, q7, q12, q20, q99, q200, q999, q1e4, if_true, if_false, Nat.le_refl, q8, q11, q16, q18, q32, q44, q48, q57, q59, q97, q122, q900]; exact g8
        · try simp (disch := omega) only [wr_s, in_nI, clN, ti_z, ti_l, true_and, and_true, kI, zI, rI, kL, zL, rL, kR, zR, nnI, nnL, nnR, iL, iR, lI, lR, exi, exl, exv, eq_self, nI_add, nI_mul, nI_sub, nI_ltI, nI_leI, nI_eq, q0, q1, q2, q3, q4, q5, q6, q10, q100, br_Tr, br_Fa, iI_s, iI_n, bI_q0, bI_q1, or_true, true_or, not_true_eq_false, not_false_eq_true, nI_l, ge64, Nat.lt_irrefl, Nat.add_sub_cancel, Nat.not_lt_zero, lN_0, lN_1e4, lN_1e6, lN_1e3, lN_add, lN_mul, lN_ltI, lN_leI, lN_eqI, lN_i, lcE, lcLe, lcLt, lN_div, q7, q12, q20, q99, q200, q999, q1e4, if_true, if_false, Nat.le_refl, q8, q11, q16, q18, q32, q44, q48, q57, q59, q97, q122, q900]; rfl
        · try simp (disch := omega) only [wr_s, in_nI, clN, ti_z, ti_l, true_and, and_true, kI, zI, rI, kL, zL, rL, kR, zR, nnI, nnL, nnR, iL, iR, lI, lR, exi, exl, exv, eq_self, nI_add, nI_mul, nI_sub, nI_ltI, nI_leI, nI_eq, q0, q1, q2, q3, q4, q5, q6, q10, q100, br_Tr, br_Fa, iI_s, iI_n, bI_q0, bI_q1, or_true, true_or, not_true_eq_false, not_false_eq_true, nI_l, ge64, Nat.lt_irrefl, Nat.add_sub_cancel, Nat.not_lt_zero, lN_0, lN_1e4, lN_1e6, lN_1e3, lN_add, lN_mul, lN_ltI, lN_leI, lN_eqI, lN_i, lcE, lcLe, lcLt, lN_div, q7, q12, q20, q99, q200, q999, q1e4, if_true, if_false, Nat.le_refl, q8, q11, q16, q18, q32, q44, q48, q57, q59, q97, q122, q900]; exact g10
        · try simp (disch := omega) only [wr_s, in_nI, clN, ti_z, ti_l, true_and, and_true, kI, zI, rI, kL, zL, rL, kR, zR, nnI, nnL, nnR, iL, iR, lI, lR, exi, exl, exv, eq_self, nI_add, nI_mul, nI_sub, nI_ltI, nI_leI, nI_eq, q0, q1, q2, q3, q4, q5, q6, q10, q100, br_Tr, br_Fa, iI_s, iI_n, bI_q0, bI_q1, or_true, true_or, not_true_eq_false, not_false_eq_true, nI_l, ge64, Nat.lt_irrefl, Nat.add_sub_cancel, Nat.not_lt_zero, lN_0, lN_1e4, lN_1e6, lN_1e3, lN_add, lN_mul, lN_ltI, lN_leI, lN_eqI, lN_i, lcE, lcLe, lcLt, lN_div, q7, q12, q20, q99, q200, q999, q1e4, if_true, if_false, Nat.le_refl, q8, q11, q16, q18, q32, q44, q48, q57, q59, q97, q122, q900]; exact g12 c8
      · rw [if_neg c8] at q
        exact q _ f ⟨(fun e => absurd rfl e), g9, g10, (fun e => by cases e), (fun e => by cases e), (fun e => by cases e), (fun e => by cases e)⟩
    · rw [Bool.and_eq_true, decide_eq_true_eq] at hc
      have hl : 48 ≤ p i ∧ p i ≤ 57 := by have := hc.2; simpa using this
      refine ax_brf (by decide) ?_
      have hen : en (isDg p) n s = en (isDg p) n (i + 1) := by rw [he, en_s hc.1 hc.2]
      refine ax_brc (fun c8 => ?_) (fun c8 => ?_)
      · refine d49 ht hin ?_
        rw [show bA p n i = nI (p i) from if_pos hc.1, g12 (by omega)]
        try simp (disch := omega) only [ht.1.all, g8, wr_s, in_nI, clN, ti_z, ti_l, true_and, and_true, kI, zI, rI, kL, zL, rL, kR, zR, nnI, nnL, nnR, iL, iR, lI, lR, exi, exl, exv, eq_self, nI_add, nI_mul, nI_ltI, nI_leI, nI_eq, q0, q1, q2, q3, q4, q5, q6, q10, q100, br_Tr, br_Fa, iI_s, iI_n, bI_q0, bI_q1, or_true, true_or, not_true_eq_false, not_false_eq_true, nI_l, ge64, Nat.lt_irrefl, Nat.add_sub_cancel, Nat.not_lt_zero, lN_0, lN_1e4, lN_1e6, lN_1e3, lN_add, lN_mul, lN_ltI, lN_leI, lN_eqI, lN_i, lcE, lcLe, lcLt, lN_div, q7, q12, q20, q99, q200, q999, q1e4, if_true, if_false, Nat.le_refl, q8, q11, q16, q18, q32, q44, q48, q57, q59, q97, q122, q900]
        have ih := ih (by omega) (sI (sI μi 332 12 (nI (cdB 10 48 (wdN p s (i + 1 - s))))) 332 8 (nI (i + 1))) hen ((f.put ⟨rfl, by omega⟩).put ⟨rfl, by omega⟩) (iI_s _ _ _ _) (by try simp (disch := omega) only [wr_s, in_nI, clN, ti_z, ti_l, true_and, and_true, kI, zI, rI, kL, zL, rL, kR, zR, nnI, nnL, nnR, iL, iR, lI, lR, exi, exl, exv, eq_self, nI_add, nI_mul, nI_sub, nI_ltI, nI_leI, nI_eq, q0, q1, q2, q3, q4, q5, q6, q10, q100, br_Tr, br_Fa, iI_s, iI_n, bI_q0, bI_q1, or_true, true_or, not_true_eq_false, not_false_eq_true, nI_l, ge64, Nat.lt_irrefl, Nat.add_sub_cancel, Nat.not_lt_zero, lN_0, lN_1e4, lN_1e6, lN_1e3, lN_add, lN_mul, lN_ltI, lN_leI, lN_eqI, lN_i, lcE, lcLe, lcLt, lN_div, q7, q12, q20, q99, q200, q999, q1e4, if_true, if_false, Nat.le_refl, q8, q11, q16, q18, q32, q44, q48, q57, q59, q97, q122, q900]; exact g9) (by try simp (disch := omega) only [wr_s, in_nI, clN, ti_z, ti_l, true_and, and_true, kI, zI, rI, kL, zL, rL, kR, zR, nnI, nnL, nnR, iL, iR, lI, lR, exi, exl, exv, eq_self, nI_add, nI_mul, nI_sub, nI_ltI, nI_leI, nI_eq, q0, q1, q2, q3, q4, q5, q6, q10, q100, br_Tr, br_Fa, iI_s, iI_n, bI_q0, bI_q1, or_true, true_or, not_true_eq_false, not_false_eq_true, nI_l, ge64, Nat.lt_irrefl, Nat.add_sub_cancel, Nat.not_lt_zero, lN_0, lN_1e4, lN_1e6, lN_1e3, lN_add, lN_mul, lN_ltI, lN_leI, lN_eqI, lN_i, lcE, lcLe, lcLt, lN_div, q7, q12, q20, q99, q200, q999, q1e4, if_true, if_false, Nat.le_refl, q8, q11, q16, q18, q32, q44, q48, q57, q59, q97, q122, q900]; exact g10) (fun _ => by try simp (disch := omega) only [wr_s, in_nI, clN, ti_z, ti_l, true_and, and_true, kI, zI, rI, kL, zL, rL, kR, zR, nnI, nnL, nnR, iL, iR, lI, lR, exi, exl, exv, eq_self, nI_add, nI_mul, nI_sub, nI_ltI, nI_leI, nI_eq, q0, q1, q2, q3, q4, q5, q6, q10, q100, br_Tr, br_Fa, iI_s, iI_n, bI_q0, bI_q1, or_true, true_or, not_true_eq_false, not_false_eq_true, nI_l, ge64, Nat.lt_irrefl, Nat.add_sub_cancel, Nat.not_lt_zero, lN_0, lN_1e4, lN_1e6, lN_1e3, lN_add, lN_mul, lN_ltI, lN_leI, lN_eqI, lN_i, lcE, lcLe, lcLt, lN_div, q7, q12, q20, q99, q200, q999, q1e4, if_true, if_false, Nat.le_refl, q8, q11, q16, q18, q32, q44, q48, q57, q59, q97, q122, q900])
        rw [show i + 1 - s = (i - s) + 1 by omega, wdN_s, cdB_c, show s + (i - s) = i by omega] at ih
        rw [nI_sub (by omega), show 10 * cdB 10 48 (wdN p s (i - s)) + p i - 48 = 10 * cdB 10 48 (wdN p s (i - s)) + (p i - 48) by omega]
        exact ih
      · have ih := ih (by omega) (sI μi 332 8 (nI (i + 1))) hen (f.put ⟨rfl, by omega⟩) (iI_s _ _ _ _) (by try simp (disch := omega) only [wr_s, in_nI, clN, ti_z, ti_l, true_and, and_true, kI, zI, rI, kL, zL, rL, kR, zR, nnI, nnL, nnR, iL, iR, lI, lR, exi, exl, exv, eq_self, nI_add, nI_mul, nI_sub, nI_ltI, nI_leI, nI_eq, q0, q1, q2, q3, q4, q5, q6, q10, q100, br_Tr, br_Fa, iI_s, iI_n, bI_q0, bI_q1, or_true, true_or, not_true_eq_false, not_false_eq_true, nI_l, ge64, Nat.lt_irrefl, Nat.add_sub_cancel, Nat.not_lt_zero, lN_0, lN_1e4, lN_1e6, lN_1e3, lN_add, lN_mul, lN_ltI, lN_leI, lN_eqI, lN_i, lcE, lcLe, lcLt, lN_div, q7, q12, q20, q99, q200, q999, q1e4, if_true, if_false, Nat.le_refl, q8, q11, q16, q18, q32, q44, q48, q57, q59, q97, q122, q900]; exact g9) (by try simp (disch := omega) only [wr_s, in_nI, clN, ti_z, ti_l, true_and, and_true, kI, zI, rI, kL, zL, rL, kR, zR, nnI, nnL, nnR, iL, iR, lI, lR, exi, exl, exv, eq_self, nI_add, nI_mul, nI_sub, nI_ltI, nI_leI, nI_eq, q0, q1, q2, q3, q4, q5, q6, q10, q100, br_Tr, br_Fa, iI_s, iI_n, bI_q0, bI_q1, or_true, true_or, not_true_eq_false, not_false_eq_true, nI_l, ge64, Nat.lt_irrefl, Nat.add_sub_cancel, Nat.not_lt_zero, lN_0, lN_1e4, lN_1e6, lN_1e3, lN_add, lN_mul, lN_ltI, lN_leI, lN_eqI, lN_i, lcE, lcLe, lcLt, lN_div, q7, q12, q20, q99, q200, q999, q1e4, if_true, if_false, Nat.le_refl, q8, q11, q16, q18, q32, q44, q48, q57, q59, q97, q122, q900]; exact g10) (fun e => by omega)
        rw [show i + 1 - s = (i - s) + 1 by omega] at ih
        exact ih
theorem d109 {i k : Nat} {K : ax_M → Prop} (h : MTp μ p n) (hi : i ≤ n) (h8 : gI μ 332 8 = nI i) (h9 : gI μ 332 9 = nI k) (hk : k < 5) (q : ∀ μ', FK PT μ μ' → MTk μ' (adv p n i) → K μ') : ax_CV l G 109 [ax_r (some 332)] μ K := by
  have hn := h.2.2.1
  have hpp : ∀ i, i < n → p i < 256 := fun i hi => (h.2.2.2 i hi).2
  unfold adv at q
  refine ax_Ct.of (by decide) (Nat.le_of_ble_eq_true rfl) (sg109_0 l G _ 332 _ ?_)
  try simp (disch := omega) only [h.1.all, h9, show ¬ (k = 5) by omega, wr_s, in_nI, clN, ti_z, ti_l, true_and, and_true, kI, zI, rI, kL, zL, rL, kR, zR, nnI, nnL, nnR, iL, iR, lI, lR, exi, exl, exv, eq_self, nI_add, nI_mul, nI_sub, nI_ltI, nI_leI, nI_eq, q0, q1, q2, q3, q4, q5, q6, q10, q100, br_Tr, br_Fa, iI_s, iI_n, bI_q0, bI_q1, or_true, true_or, not_true_eq_false, not_false_eq_true, nI_l, ge64, Nat.lt_irrefl, Nat.add_sub_cancel, Nat.not_lt_zero, lN_0, lN_1e4, lN_1e6, lN_1e3, lN_add, lN_mul, lN_ltI, lN_leI, lN_eqI, lN_i, lcE, lcLe, lcLt, lN_div, q7, q12, q20, q99, q200, q999, q1e4, if_true, if_false, Nat.le_refl, q8, q11, q16, q18, q32, q44, q48, q57, q59, q97, q122, q900]
  refine up_to (P := fun j => i ≤ j → ∀ (μj : ax_M), en (isSp p) n i = en (isSp p) n j → FK PT μ μj → gI μj 332 8 = nI j → (ax_Rw l G ax_h109 (ax_E G ax_h109 (fun x μ' => x = none ∧ K μ')) 9 [(0, ax_r (some 332))] [] 0 0 μj)) (n + 1) (fun hj μj he f g8 => ?_) (fun j hj ih hij μj he f g8 => ?_) i (by omega) (Nat.le_refl _) μ rfl (FK.refl _ _) h8
  · exfalso
    have := (en_ge (P := isSp p) hi).2
    rw [he, en_e (by omega)] at this
    omega
  · have ht := h.fk f (fun b k q => Or.inl ⟨q.1, q.2.1⟩)
    have hjn : j ≤ n := by omega
    refine sg109_9 l G _ 332 _ ?_
    try simp (disch := omega) only [ht.1.all, g8, wr_s, in_nI, clN, ti_z, ti_l, true_and, and_true, kI, zI, rI, kL, zL, rL, kR, zR, nnI, nnL, nnR, iL, iR, lI, lR, exi, exl, exv, eq_self, nI_add, nI_mul, nI_sub, nI_ltI, nI_leI, nI_eq, q0, q1, q2, q3, q4, q5, q6, q10, q100, br_Tr, br_Fa, iI_s, iI_n, bI_q0, bI_q1, or_true, true_or, not_true_eq_false, not_false_eq_true, nI_l, ge64, Nat.lt_irrefl, Nat.add_sub_cancel, Nat.not_lt_zero, lN_0, lN_1e4, lN_1e6, lN_1e3, lN_add, lN_mul, lN_ltI, lN_leI, lN_eqI, lN_i, lcE, lcLe, lcLt, lN_div, q7, q12, q20, q99, q200, q999, q1e4, if_true, if_false, Nat.le_refl, q8, q11, q16, q18, q32, q44, q48, q57, q59, q97, q122, q900]
    refine d49 ht hjn ?_
    try simp (disch := omega) only [ht.1.all, g8, wr_s, in_nI, clN, ti_z, ti_l, true_and, and_true, kI, zI, rI, kL, zL, rL, kR, zR, nnI, nnL, nnR, iL, iR, lI, lR, exi, exl, exv, eq_self, nI_add, nI_mul, nI_sub, nI_ltI, nI_leI, nI_eq, q0, q1, q2, q3, q4, q5, q6, q10, q100, br_Tr, br_Fa, iI_s, iI_n, bI_q0, bI_q1, or_true, true_or, not_true_eq_false, not_false_eq_true, nI_l, ge64, Nat.lt_irrefl, Nat.add_sub_cancel, Nat.not_lt_zero, lN_0, lN_1e4, lN_1e6, lN_1e3, lN_add, lN_mul, lN_ltI, lN_leI, lN_eqI, lN_i, lcE, lcLe, lcLt, lN_div, q7, q12, q20, q99, q200, q999, q1e4, if_true, if_false, Nat.le_refl, q8, q11, q16, q18, q32, q44, q48, q57, q59, q97, q122, q900]
    rw [bA_eq (hpp j) (by omega)]
    refine ax_brc (fun c => ?_) (fun c => ?_)
    · exact ih (by omega) _ (by rw [he, en_s c.1 (by simp [c.2])]) (f.put ⟨rfl, by omega⟩) (iI_s _ _ _ _)
    · have hen : en (isSp p) n i = j := by rw [he, en_e (fun q => c ⟨q.1, by have := q.2; simpa using this⟩)]
      rw [hen] at q
      unfold advS at q
      have f1 : FK PT μ (sI (sI (sI μj 332 10 (nI j)) 332 9 (nI 0)) 332 11 (nI 0)) := ((f.put ⟨rfl, by omega⟩).put ⟨rfl, by omega⟩).put ⟨rfl, by omega⟩
      have ht1 := h.fk f1 (fun b k q => Or.inl ⟨q.1, q.2.1⟩)
      have k8 : gI (sI (sI (sI μj 332 10 (nI j)) 332 9 (nI 0)) 332 11 (nI 0)) 332 8 = nI j := by try simp (disch := omega) only [wr_s, in_nI, clN, ti_z, ti_l, true_and, and_true, kI, zI, rI, kL, zL, rL, kR, zR, nnI, nnL, nnR, iL, iR, lI, lR, exi, exl, exv, eq_self, nI_add, nI_mul, nI_sub, nI_ltI, nI_leI, nI_eq, q0, q1, q2, q3, q4, q5, q6, q10, q100, br_Tr, br_Fa, iI_s, iI_n, bI_q0, bI_q1, or_true, true_or, not_true_eq_false, not_false_eq_true, nI_l, ge64, Nat.lt_irrefl, Nat.add_sub_cancel, Nat.not_lt_zero, lN_0, lN_1e4, lN_1e6, lN_1e3, lN_add, lN_mul, lN_ltI, lN_leI, lN_eqI, lN_i, lcE, lcLe, lcLt, lN_div, q7, q12, q20, q99, q200, q999, q1e4, if_true, if_false, Nat.le_refl, q8, q11, q16, q18, q32, q44, q48, q57, q59, q97, q122, q900]; exact g8
      have k9 : gI (sI (sI (sI μj 332 10 (nI j)) 332 9 (nI 0)) 332 11 (nI 0)) 332 9 = nI 0 := by try simp (disch := omega) only [wr_s, in_nI, clN, ti_z, ti_l, true_and, and_true, kI, zI, rI, kL, zL, rL, kR, zR, nnI, nnL, nnR, iL, iR, lI, lR, exi, exl, exv, eq_self, nI_add, nI_mul, nI_sub, nI_ltI, nI_leI, nI_eq, q0, q1, q2, q3, q4, q5, q6, q10, q100, br_Tr, br_Fa, iI_s, iI_n, bI_q0, bI_q1, or_true, true_or, not_true_eq_false, not_false_eq_true, nI_l, ge64, Nat.lt_irrefl, Nat.add_sub_cancel, Nat.not_lt_zero, lN_0, lN_1e4, lN_1e6, lN_1e3, lN_add, lN_mul, lN_ltI, lN_leI, lN_eqI, lN_i, lcE, lcLe, lcLt, lN_div, q7, q12, q20, q99, q200, q999, q1e4, if_true, if_false, Nat.le_refl, q8, q11, q16, q18, q32, q44, q48, q57, q59, q97, q122, q900]
      have k10 : gI (sI (sI (sI μj 332 10 (nI j)) 332 9 (nI 0)) 332 11 (nI 0)) 332 10 = nI j := by try simp (disch := omega) only [wr_s, in_nI, clN, ti_z, ti_l, true_and, and_true, kI, zI, rI, kL, zL, rL, kR, zR, nnI, nnL, nnR, iL, iR, lI, lR, exi, exl, exv, eq_self, nI_add, nI_mul, nI_sub, nI_ltI, nI_leI, nI_eq, q0, q1, q2, q3, q4, q5, q6, q10, q100, br_Tr, br_Fa, iI_s, iI_n, bI_q0, bI_q1, or_true, true_or, not_true_eq_false, not_false_eq_true, nI_l, ge64, Nat.lt_irrefl, Nat.add_sub_cancel, Nat.not_lt_zero, lN_0, lN_1e4, lN_1e6, lN_1e3, lN_add, lN_mul, lN_ltI, lN_leI, lN_eqI, lN_i, lcE, lcLe, lcLt, lN_div, q7, q12, q20, q99, q200, q999, q1e4, if_true, if_false, Nat.le_refl, q8, q11, q16, q18, q32, q44, q48, q57, q59, q97, q122, q900]
      generalize sI (sI (sI μj 332 10 (nI j)) 332 9 (nI 0)) 332 11 (nI 0) = μ1 at f1 ht1 k8 k9 k10 ⊢
      refine d49 ht1 hjn ?_
      try simp (disch := omega) only [ht1.1.all, wr_s, in_nI, clN, ti_z, ti_l, true_and, and_true, kI, zI, rI, kL, zL, rL, kR, zR, nnI, nnL, nnR, iL, iR, lI, lR, exi, exl, exv, eq_self, nI_add, nI_mul, nI_sub, nI_ltI, nI_leI, nI_eq, q0, q1, q2, q3, q4, q5, q6, q10, q100, br_Tr, br_Fa, iI_s, iI_n, bI_q0, bI_q1, or_true, true_or, not_true_eq_false, not_false_eq_true, nI_l, ge64, Nat.lt_irrefl, Nat.add_sub_cancel, Nat.not_lt_zero, lN_0, lN_1e4, lN_1e6, lN_1e3, lN_add, lN_mul, lN_ltI, lN_leI, lN_eqI, lN_i, lcE, lcLe, lcLt, lN_div, q7, q12, q20, q99, q200, q999, q1e4, if_true, if_false, Nat.le_refl, q8, q11, q16, q18, q32, q44, q48, q57, q59, q97, q122, q900]
      rw [bA_n (hpp j)]
      refine ax_brc (fun c0 => ?_) (fun c0 => ?_)
      · rw [if_pos (by omega)] at q
        refine q _ (f1.put ⟨rfl, by omega⟩) ⟨fun _ => ?_, ?_, ?_, (fun e => by cases e), (fun e => by cases e), (fun e => by cases e), (fun e => by cases e)⟩
        · try simp (disch := omega) only [wr_s, in_nI, clN, ti_z, ti_l, true_and, and_true, kI, zI, rI, kL, zL, rL, kR, zR, nnI, nnL, nnR, iL, iR, lI, lR, exi, exl, exv, eq_self, nI_add, nI_mul, nI_sub, nI_ltI, nI_leI, nI_eq, q0, q1, q2, q3, q4, q5, q6, q10, q100, br_Tr, br_Fa, iI_s, iI_n, bI_q0, bI_q1, or_true, true_or, not_true_eq_false, not_false_eq_true, nI_l, ge64, Nat.lt_irrefl, Nat.add_sub_cancel, Nat.not_lt_zero, lN_0, lN_1e4, lN_1e6, lN_1e3, lN_add, lN_mul, lN_ltI, lN_leI, lN_eqI, lN_i, lcE, lcLe, lcLt, lN_div, q7, q12, q20, q99, q200, q999, q1e4, if_true, if_false, Nat.le_refl, q8, q11, q16, q18, q32, q44, q48, q57, q59, q97, q122, q900]; exact k8
        · try simp (disch := omega) only [wr_s, in_nI, clN, ti_z, ti_l, true_and, and_true, kI, zI, rI, kL, zL, rL, kR, zR, nnI, nnL, nnR, iL, iR, lI, lR, exi, exl, exv, eq_self, nI_add, nI_mul, nI_sub, nI_ltI, nI_leI, nI_eq, q0, q1, q2, q3, q4, q5, q6, q10, q100, br_Tr, br_Fa, iI_s, iI_n, bI_q0, bI_q1, or_true, true_or, not_true_eq_false, not_false_eq_true, nI_l, ge64, Nat.lt_irrefl, Nat.add_sub_cancel, Nat.not_lt_zero, lN_0, lN_1e4, lN_1e6, lN_1e3, lN_add, lN_mul, lN_ltI, lN_leI, lN_eqI, lN_i, lcE, lcLe, lcLt, lN_div, q7, q12, q20, q99, q200, q999, q1e4, if_true, if_false, Nat.le_refl, q8, q11, q16, q18, q32, q44, q48, q57, q59, q97, q122, q900]; rfl
        · try simp (disch := omega) only [wr_s, in_nI, clN, ti_z, ti_l, true_and, and_true, kI, zI, rI, kL, zL, rL, kR, zR, nnI, nnL, nnR, iL, iR, lI, lR, exi, exl, exv, eq_self, nI_add, nI_mul, nI_sub, nI_ltI, nI_leI, nI_eq, q0, q1, q2, q3, q4, q5, q6, q10, q100, br_Tr, br_Fa, iI_s, iI_n, bI_q0, bI_q1, or_true, true_or, not_true_eq_false, not_false_eq_true, nI_l, ge64, Nat.lt_irrefl, Nat.add_sub_cancel, Nat.not_lt_zero, lN_0, lN_1e4, lN_1e6, lN_1e3, lN_add, lN_mul, lN_ltI, lN_leI, lN_eqI, lN_i, lcE, lcLe, lcLt, lN_div, q7, q12, q20, q99, q200, q999, q1e4, if_true, if_false, Nat.le_refl, q8, q11, q16, q18, q32, q44, q48, q57, q59, q97, q122, q900]; exact k10
      have c0 : j < n := Decidable.not_not.mp c0
      rw [if_neg (by omega)] at q
      refine d61 (hpp j) ?_
      rw [decide_eq_true c0, Bool.true_and]
      try simp (disch := omega) only [ht1.1.all, wr_s, in_nI, clN, ti_z, ti_l, true_and, and_true, kI, zI, rI, kL, zL, rL, kR, zR, nnI, nnL, nnR, iL, iR, lI, lR, exi, exl, exv, eq_self, nI_add, nI_mul, nI_sub, nI_ltI, nI_leI, nI_eq, q0, q1, q2, q3, q4, q5, q6, q10, q100, br_Tr, br_Fa, iI_s, iI_n, bI_q0, bI_q1, or_true, true_or, not_true_eq_false, not_false_eq_true, nI_l, ge64, Nat.lt_irrefl, Nat.add_sub_cancel, Nat.not_lt_zero, lN_0, lN_1e4, lN_1e6, lN_1e3, lN_add, lN_mul, lN_ltI, lN_leI, lN_eqI, lN_i, lcE, lcLe, lcLt, lN_div, q7, q12, q20, q99, q200, q999, q1e4, if_true, if_false, Nat.le_refl, q8, q11, q16, q18, q32, q44, q48, q57, q59, q97, q122, q900]
      refine ax_brc (fun c1 => ?_) (fun c1 => ?_)
      · rw [if_neg (by rw [c1]; exact Bool.false_ne_true)] at q
        refine d58 (hpp j) ?_
        rw [decide_eq_true c0, Bool.true_and]
        try simp (disch := omega) only [ht1.1.all, wr_s, in_nI, clN, ti_z, ti_l, true_and, and_true, kI, zI, rI, kL, zL, rL, kR, zR, nnI, nnL, nnR, iL, iR, lI, lR, exi, exl, exv, eq_self, nI_add, nI_mul, nI_sub, nI_ltI, nI_leI, nI_eq, q0, q1, q2, q3, q4, q5, q6, q10, q100, br_Tr, br_Fa, iI_s, iI_n, bI_q0, bI_q1, or_true, true_or, not_true_eq_false, not_false_eq_true, nI_l, ge64, Nat.lt_irrefl, Nat.add_sub_cancel, Nat.not_lt_zero, lN_0, lN_1e4, lN_1e6, lN_1e3, lN_add, lN_mul, lN_ltI, lN_leI, lN_eqI, lN_i, lcE, lcLe, lcLt, lN_div, q7, q12, q20, q99, q200, q999, q1e4, if_true, if_false, Nat.le_refl, q8, q11, q16, q18, q32, q44, q48, q57, q59, q97, q122, q900]
        refine ax_brc (fun c2 => ?_) (fun c2 => ?_)
        · rw [if_neg (by rw [c2]; exact Bool.false_ne_true)] at q
          rw [bA_eq (hpp j) (by omega), bA_eq (hpp j) (by omega)]
          refine ax_brc (fun c3 => ?_) (fun c3 => ?_)
          · rw [if_pos c3.2] at q
            rw [show bA p n j = nI 59 by unfold bA; rw [if_pos c0, c3.2]]
            try simp (disch := omega) only [k8, wr_s, in_nI, clN, ti_z, ti_l, true_and, and_true, kI, zI, rI, kL, zL, rL, kR, zR, nnI, nnL, nnR, iL, iR, lI, lR, exi, exl, exv, eq_self, nI_add, nI_mul, nI_sub, nI_ltI, nI_leI, nI_eq, q0, q1, q2, q3, q4, q5, q6, q10, q100, br_Tr, br_Fa, iI_s, iI_n, bI_q0, bI_q1, or_true, true_or, not_true_eq_false, not_false_eq_true, nI_l, ge64, Nat.lt_irrefl, Nat.add_sub_cancel, Nat.not_lt_zero, lN_0, lN_1e4, lN_1e6, lN_1e3, lN_add, lN_mul, lN_ltI, lN_leI, lN_eqI, lN_i, lcE, lcLe, lcLt, lN_div, q7, q12, q20, q99, q200, q999, q1e4, if_true, if_false, Nat.le_refl, q8, q11, q16, q18, q32, q44, q48, q57, q59, q97, q122, q900]
            refine q _ (((f1.put ⟨rfl, by omega⟩).put ⟨rfl, by omega⟩).put ⟨rfl, by omega⟩) ⟨fun _ => ?_, ?_, ?_, fun _ => ?_, (fun e => by cases e), (fun e => by cases e), (fun e => by cases e)⟩
            · try simp (disch := omega) only [wr_s, in_nI, clN, ti_z, ti_l, true_and, and_true, kI, zI, rI, kL, zL, rL, kR, zR, nnI, nnL, nnR, iL, iR, lI, lR, exi, exl, exv, eq_self, nI_add, nI_mul, nI_sub, nI_ltI, nI_leI, nI_eq, q0, q1, q2, q3, q4, q5, q6, q10, q100, br_Tr, br_Fa, iI_s, iI_n, bI_q0, bI_q1, or_true, true_or, not_true_eq_false, not_false_eq_true, nI_l, ge64, Nat.lt_irrefl, Nat.add_sub_cancel, Nat.not_lt_zero, lN_0, lN_1e4, lN_1e6, lN_1e3, lN_add, lN_mul, lN_ltI, lN_leI, lN_eqI, lN_i, lcE, lcLe, lcLt, lN_div, q7, q12, q20, q99, q200, q999, q1e4, if_true, if_false, Nat.le_refl, q8, q11, q16, q18, q32, q44, q48, q57, q59, q97, q122, q900]
            · try simp (disch := omega) only [wr_s, in_nI, clN, ti_z, ti_l, true_and, and_true, kI, zI, rI, kL, zL, rL, kR, zR, nnI, nnL, nnR, iL, iR, lI, lR, exi, exl, exv, eq_self, nI_add, nI_mul, nI_sub, nI_ltI, nI_leI, nI_eq, q0, q1, q2, q3, q4, q5, q6, q10, q100, br_Tr, br_Fa, iI_s, iI_n, bI_q0, bI_q1, or_true, true_or, not_true_eq_false, not_false_eq_true, nI_l, ge64, Nat.lt_irrefl, Nat.add_sub_cancel, Nat.not_lt_zero, lN_0, lN_1e4, lN_1e6, lN_1e3, lN_add, lN_mul, lN_ltI, lN_leI, lN_eqI, lN_i, lcE, lcLe, lcLt, lN_div, q7, q12, q20, q99, q200, q999, q1e4, if_true, if_false, Nat.le_refl, q8, q11, q16, q18, q32, q44, q48, q57, q59, q97, q122, q900]; rfl
            · try simp (disch := omega) only [wr_s, in_nI, clN, ti_z, ti_l, true_and, and_true, kI, zI, rI, kL, zL, rL, kR, zR, nnI, nnL, nnR, iL, iR, lI, lR, exi, exl, exv, eq_self, nI_add, nI_mul, nI_sub, nI_ltI, nI_leI, nI_eq, q0, q1, q2, q3, q4, q5, q6, q10, q100, br_Tr, br_Fa, iI_s, iI_n, bI_q0, bI_q1, or_true, true_or, not_true_eq_false, not_false_eq_true, nI_l, ge64, Nat.lt_irrefl, Nat.add_sub_cancel, Nat.not_lt_zero, lN_0, lN_1e4, lN_1e6, lN_1e3, lN_add, lN_mul, lN_ltI, lN_leI, lN_eqI, lN_i, lcE, lcLe, lcLt, lN_div, q7, q12, q20, q99, q200, q999, q1e4, if_true, if_false, Nat.le_refl, q8, q11, q16, q18, q32, q44, q48, q57, q59, q97, q122, q900]; exact k10
            · try simp (disch := omega) only [wr_s, in_nI, clN, ti_z, ti_l, true_and, and_true, kI, zI, rI, kL, zL, rL, kR, zR, nnI, nnL, nnR, iL, iR, lI, lR, exi, exl, exv, eq_self, nI_add, nI_mul, nI_sub, nI_ltI, nI_leI, nI_eq, q0, q1, q2, q3, q4, q5, q6, q10, q100, br_Tr, br_Fa, iI_s, iI_n, bI_q0, bI_q1, or_true, true_or, not_true_eq_false, not_false_eq_true, nI_l, ge64, Nat.lt_irrefl, Nat.add_sub_cancel, Nat.not_lt_zero, lN_0, lN_1e4, lN_1e6, lN_1e3, lN_add, lN_mul, lN_ltI, lN_leI, lN_eqI, lN_i, lcE, lcLe, lcLt, lN_div, q7, q12, q20, q99, q200, q999, q1e4, if_true, if_false, Nat.le_refl, q8, q11, q16, q18, q32, q44, q48, q57, q59, q97, q122, q900]
          rw [if_neg (fun e => c3 ⟨c0, e⟩)] at q
          refine ax_brc (fun c4 => ?_) (fun c4 => ?_)
          · rw [if_pos c4.2] at q
            rw [show bA p n j = nI 44 by unfold bA; rw [if_pos c0, c4.2]]
            try simp (disch := omega) only [k8, wr_s, in_nI, clN, ti_z, ti_l, true_and, and_true, kI, zI, rI, kL, zL, rL, kR, zR, nnI, nnL, nnR, iL, iR, lI, lR, exi, exl, exv, eq_self, nI_add, nI_mul, nI_sub, nI_ltI, nI_leI, nI_eq, q0, q1, q2, q3, q4, q5, q6, q10, q100, br_Tr, br_Fa, iI_s, iI_n, bI_q0, bI_q1, or_true, true_or, not_true_eq_false, not_false_eq_true, nI_l, ge64, Nat.lt_irrefl, Nat.add_sub_cancel, Nat.not_lt_zero, lN_0, lN_1e4, lN_1e6, lN_1e3, lN_add, lN_mul, lN_ltI, lN_leI, lN_eqI, lN_i, lcE, lcLe, lcLt, lN_div, q7, q12, q20, q99, q200, q999, q1e4, if_true, if_false, Nat.le_refl, q8, q11, q16, q18, q32, q44, q48, q57, q59, q97, q122, q900]
            refine q _ (((f1.put ⟨rfl, by omega⟩).put ⟨rfl, by omega⟩).put ⟨rfl, by omega⟩) ⟨fun _ => ?_, ?_, ?_, (fun e => by cases e), fun _ => ?_, (fun e => by cases e), (fun e => by cases e)⟩
            · try simp (disch := omega) only [wr_s, in_nI, clN, ti_z, ti_l, true_and, and_true, kI, zI, rI, kL, zL, rL, kR, zR, nnI, nnL, nnR, iL, iR, lI, lR, exi, exl, exv, eq_self, nI_add, nI_mul, nI_sub, nI_ltI, nI_leI, nI_eq, q0, q1, q2, q3, q4, q5, q6, q10, q100, br_Tr, br_Fa, iI_s, iI_n, bI_q0, bI_q1, or_true, true_or, not_true_eq_false, not_false_eq_true, nI_l, ge64, Nat.lt_irrefl, Nat.add_sub_cancel, Nat.not_lt_zero, lN_0, lN_1e4, lN_1e6, lN_1e3, lN_add, lN_mul, lN_ltI, lN_leI, lN_eqI, lN_i, lcE, lcLe, lcLt, lN_div, q7, q12, q20, q99, q200, q999, q1e4, if_true, if_false, Nat.le_refl, q8, q11, q16, q18, q32, q44, q48, q57, q59, q97, q122, q900]
            · try simp (disch := omega) only [wr_s, in_nI, clN, ti_z, ti_l, true_and, and_true, kI, zI, rI, kL, zL, rL, kR, zR, nnI, nnL, nnR, iL, iR, lI, lR, exi, exl, exv, eq_self, nI_add, nI_mul, nI_sub, nI_ltI, nI_leI, nI_eq, q0, q1, q2, q3, q4, q5, q6, q10, q100, br_Tr, br_Fa, iI_s, iI_n, bI_q0, bI_q1, or_true, true_or, not_true_eq_false, not_false_eq_true, nI_l, ge64, Nat.lt_irrefl, Nat.add_sub_cancel, Nat.not_lt_zero, lN_0, lN_1e4, lN_1e6, lN_1e3, lN_add, lN_mul, lN_ltI, lN_leI, lN_eqI, lN_i, lcE, lcLe, lcLt, lN_div, q7, q12, q20, q99, q200, q999, q1e4, if_true, if_false, Nat.le_refl, q8, q11, q16, q18, q32, q44, q48, q57, q59, q97, q122, q900]; rfl
            · try simp (disch := omega) only [wr_s, in_nI, clN, ti_z, ti_l, true_and, and_true, kI, zI, rI, kL, zL, rL, kR, zR, nnI, nnL, nnR, iL, iR, lI, lR, exi, exl, exv, eq_self, nI_add, nI_mul, nI_sub, nI_ltI, nI_leI, nI_eq, q0, q1, q2, q3, q4, q5, q6, q10, q100, br_Tr, br_Fa, iI_s, iI_n, bI_q0, bI_q1, or_true, true_or, not_true_eq_false, not_false_eq_true, nI_l, ge64, Nat.lt_irrefl, Nat.add_sub_cancel, Nat.not_lt_zero, lN_0, lN_1e4, lN_1e6, lN_1e3, lN_add, lN_mul, lN_ltI, lN_leI, lN_eqI, lN_i, lcE, lcLe, lcLt, lN_div, q7, q12, q20, q99, q200, q999, q1e4, if_true, if_false, Nat.le_refl, q8, q11, q16, q18, q32, q44, q48, q57, q59, q97, q122, q900]; exact k10
            · try simp (disch := omega) only [wr_s, in_nI, clN, ti_z, ti_l, true_and, and_true, kI, zI, rI, kL, zL, rL, kR, zR, nnI, nnL, nnR, iL, iR, lI, lR, exi, exl, exv, eq_self, nI_add, nI_mul, nI_sub, nI_ltI, nI_leI, nI_eq, q0, q1, q2, q3, q4, q5, q6, q10, q100, br_Tr, br_Fa, iI_s, iI_n, bI_q0, bI_q1, or_true, true_or, not_true_eq_false, not_false_eq_true, nI_l, ge64, Nat.lt_irrefl, Nat.add_sub_cancel, Nat.not_lt_zero, lN_0, lN_1e4, lN_1e6, lN_1e3, lN_add, lN_mul, lN_ltI, lN_leI, lN_eqI, lN_i, lcE, lcLe, lcLt, lN_div, q7, q12, q20, q99, q200, q999, q1e4, if_true, if_false, Nat.le_refl, q8, q11, q16, q18, q32, q44, q48, q57, q59, q97, q122, q900]
          · rw [if_neg (fun e => c4 ⟨c0, e⟩)] at q
            exact q _ f1 ⟨(fun e => absurd rfl e), k9, k10, (fun e => by cases e), (fun e => by cases e), (fun e => by cases e), (fun e => by cases e)⟩
        · rw [if_pos (by simpa using c2)] at q
          have f2 : FK PT μ1 (sI μ1 332 12 (nI 0)) := (FK.refl PT _).put ⟨rfl, by omega⟩
          exact g109_178 (ht1.fk f2 (fun b k q => Or.inl ⟨q.1, q.2.1⟩)) hjn (by try simp (disch := omega) only [wr_s, in_nI, clN, ti_z, ti_l, true_and, and_true, kI, zI, rI, kL, zL, rL, kR, zR, nnI, nnL, nnR, iL, iR, lI, lR, exi, exl, exv, eq_self, nI_add, nI_mul, nI_sub, nI_ltI, nI_leI, nI_eq, q0, q1, q2, q3, q4, q5, q6, q10, q100, br_Tr, br_Fa, iI_s, iI_n, bI_q0, bI_q1, or_true, true_or, not_true_eq_false, not_false_eq_true, nI_l, ge64, Nat.lt_irrefl, Nat.add_sub_cancel, Nat.not_lt_zero, lN_0, lN_1e4, lN_1e6, lN_1e3, lN_add, lN_mul, lN_ltI, lN_leI, lN_eqI, lN_i, lcE, lcLe, lcLt, lN_div, q7, q12, q20, q99, q200, q999, q1e4, if_true, if_false, Nat.le_refl, q8, q11, q16, q18, q32, q44, q48, q57, q59, q97, q122, q900]; exact k8) (by try simp (disch := omega) only [wr_s, in_nI, clN, ti_z, ti_l, true_and, and_true, kI, zI, rI, kL, zL, rL, kR, zR, nnI, nnL, nnR, iL, iR, lI, lR, exi, exl, exv, eq_self, nI_add, nI_mul, nI_sub, nI_ltI, nI_leI, nI_eq, q0, q1, q2, q3, q4, q5, q6, q10, q100, br_Tr, br_Fa, iI_s, iI_n, bI_q0, bI_q1, or_true, true_or, not_true_eq_false, not_false_eq_true, nI_l, ge64, Nat.lt_irrefl, Nat.add_sub_cancel, Nat.not_lt_zero, lN_0, lN_1e4, lN_1e6, lN_1e3, lN_add, lN_mul, lN_ltI, lN_leI, lN_eqI, lN_i, lcE, lcLe, lcLt, lN_div, q7, q12, q20, q99, q200, q999, q1e4, if_true, if_false, Nat.le_refl, q8, q11, q16, q18, q32, q44, q48, q57, q59, q97, q122, q900]; exact k9) (by try simp (disch := omega) only [wr_s, in_nI, clN, ti_z, ti_l, true_and, and_true, kI, zI, rI, kL, zL, rL, kR, zR, nnI, nnL, nnR, iL, iR, lI, lR, exi, exl, exv, eq_self, nI_add, nI_mul, nI_sub, nI_ltI, nI_leI, nI_eq, q0, q1, q2, q3, q4, q5, q6, q10, q100, br_Tr, br_Fa, iI_s, iI_n, bI_q0, bI_q1, or_true, true_or, not_true_eq_false, not_false_eq_true, nI_l, ge64, Nat.lt_irrefl, Nat.add_sub_cancel, Nat.not_lt_zero, lN_0, lN_1e4, lN_1e6, lN_1e3, lN_add, lN_mul, lN_ltI, lN_leI, lN_eqI, lN_i, lcE, lcLe, lcLt, lN_div, q7, q12, q20, q99, q200, q999, q1e4, if_true, if_false, Nat.le_refl, q8, q11, q16, q18, q32, q44, q48, q57, q59, q97, q122, q900]; exact k10) (iI_s _ _ _ _) (fun μ' f' hk => q μ' ((f1.trans f2).trans f') hk)
      · rw [if_pos (by simpa using c1)] at q
        have f2 : FK PT μ1 (sL μ1 332 15 (lN 0)) := (FK.refl PT _).putL ⟨rfl, by omega⟩
        exact g109_89 (ht1.fk f2 (fun b k q => Or.inl ⟨q.1, q.2.1⟩)) hjn k8 k9 k10 (lL_s _ _ _ _) (fun μ' f' hk => q μ' ((f1.trans f2).trans f') hk)
end V1
