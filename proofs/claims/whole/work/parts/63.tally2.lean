theorem isCourse.oR {μ : ax_M} {c b k : Nat} {x : Option Nat} (h : isCourse μ c) (hb : b < c ∨ c + 81 ≤ b) : isCourse (sR μ b k x) c := by
  obtain ⟨h0, h⟩ := h
  have gr : ∀ {g n z i : Nat}, c + 1 ≤ g → g + n < c + 81 → isGrid μ (gR μ c i) g n z → isGrid (sR μ b k x) (gR (sR μ b k x) c i) g n z := by
    intro g n z i h1 h2 hg
    obtain ⟨a1, a2, a3, a4, a5, a6⟩ := hg
    refine ⟨by rw [rR_n (by omega)]; exact a1, a2, a3, a4, fun t ht => ?_, a6⟩
    rw [rR_n (by omega)]; exact a5 t ht
  exact ⟨h0, gr (by omega) (by omega) h.1, gr (by omega) (by omega) h.2.1, gr (by omega) (by omega) h.2.2.1, gr (by omega) (by omega) h.2.2.2.1, gr (by omega) (by omega) h.2.2.2.2.1, gr (by omega) (by omega) h.2.2.2.2.2.1, gr (by omega) (by omega) h.2.2.2.2.2.2.1, gr (by omega) (by omega) h.2.2.2.2.2.2.2⟩
theorem isTally.sR {μ : ax_M} {y c b k : Nat} {x : Option Nat} (h : isTally μ y c) (hb : (b < y ∨ y + 7 ≤ b) ∨ (b = y ∧ k = 4)) : isTally (sR μ b k x) y c := by
  obtain ⟨⟨h1, h2, h3, h4, h5, h6, h7⟩, h8⟩ := h
  refine ⟨⟨h1, h2, by rw [rR_n (by omega)]; exact h3, by rw [rR_n (by omega)]; exact h4, by rw [rR_n (by omega)]; exact h5, by rw [rR_n (by omega)]; exact h6, h7⟩, fun o ho => ?_⟩
  rw [rR_n (by omega)]; exact h8 o ho
def FrL (y : Nat) (μ μ' : ax_M) : Prop := μ'.1 = μ.1 ∧ μ'.2.1 = μ.2.1 ∧ μ'.2.2.1 = μ.2.2.1 ∧ μ'.2.2.2.2 = μ.2.2.2.2 ∧ ∀ b k, ¬ (b = y + 5 ∨ b = y + 6) → gL μ' b k = gL μ b k
theorem FrL.refl (y : Nat) (μ : ax_M) : FrL y μ μ := ⟨rfl, rfl, rfl, rfl, fun _ _ _ => rfl⟩
theorem FrL.put {y : Nat} {μ μ1 : ax_M} (h : FrL y μ μ1) {a k : Nat} {v : Int64} (hp : a = y + 5 ∨ a = y + 6) : FrL y μ (sL μ1 a k v) := ⟨h.1, h.2.1, h.2.2.1, h.2.2.2.1, fun b j hn => by
  rw [lL, if_neg (fun q => hn (by rw [q.1]; exact hp))]; exact h.2.2.2.2 b j hn⟩
theorem TN.frL {μ μ1 : ax_M} {z y c L : Nat} {a : Ld} (h : TN μ y c L a) (f : FrL z μ μ1) : TN μ1 y c L a := by
  obtain ⟨n, kz, i, lo, r⟩ := μ
  obtain ⟨n1, kz1, i1, lo1, r1⟩ := μ1
  obtain ⟨-, rfl, rfl, rfl, -⟩ : n1 = n ∧ kz1 = kz ∧ i1 = i ∧ r1 = r ∧ _ := f
  exact h
def bts (s : Nat) : Nat := sumN (fun i => (s.testBit i).toNat) 8
def sTs (a : Ld) (m o s : Nat) : Nat := sumN (fun t => if s.testBit t = true then pTh a o 0 m t else 0) (nTh a)
def sOs (a : Ld) (m o s : Nat) : Nat := sumN (fun t => if s.testBit t = true then pOw a o 0 m t else 0) (nTh a)
def gapS (a : Ld) (m o s : Nat) : Nat := dif (rat (sTs a m o s) (sOs a m o s)) (liv a 0 m)
def lkK (a : Ld) (k m o : Nat) : Nat → Option (Nat × Nat)
  | 0 => none
  | s + 1 => if bts s = k ∧ 0 < sOs a m o s then (match lkK a k m o s with
      | none => some (s, gapS a m o s)
      | some b => if gapS a m o s < b.2 then some (s, gapS a m o s) else some b)
    else lkK a k m o s
def nrK (a : Ld) (h m : Nat) : Nat → Option (Nat × Nat)
  | 0 => none
  | o + 1 => match nrK a h m o with
    | none => some (o, dif (num a o m) (liv a h m))
    | some b => if dif (num a o m) (liv a h m) < b.2 then some (o, dif (num a o m) (liv a h m)) else some b
def hs0 (a : Ld) (o : Nat) : Bool := allN (fun m => !isBk a m || decide (num a o m = 10000)) (nMo a)
def hs1 (a : Ld) (o : Nat) : Bool := allN (fun m => allN (fun t => !(decide (0 < allP a t (lsM a o m)) && !Tr a t m)) (nTh a)) (nMo a)
def hs2 (a : Ld) (o : Nat) : Bool := allN (fun m => allN (fun h => decide (liv a h m ≤ num a o m)) (nHo a)) (nMo a)
theorem dif_le {x y b : Nat} (hx : x ≤ b) (hy : y ≤ b) : dif x y ≤ b := by unfold dif; omega
theorem liv_in (a : Ld) (h m : Nat) : liv a h m ≤ 1000000 := rat_le _ _
theorem gapS_in (a : Ld) (m o s : Nat) : gapS a m o s ≤ 1000000 := dif_le (rat_le _ _) (liv_in _ _ _)
theorem lkK_in (a : Ld) (k m o : Nat) : ∀ (n : Nat), ∀ b, lkK a k m o n = some b → b.1 < n ∧ b.2 ≤ 1000000
  | 0, b, h => by cases h
  | n + 1, b, h => by
    unfold lkK at h
    have ih := lkK_in a k m o n
    have hp := gapS_in a m o n
    split at h
    · cases hb : lkK a k m o n with
      | none => rw [hb] at h; cases h; exact ⟨by omega, hp⟩
      | some b' =>
        rw [hb] at h
        have ih := ih b' hb
        simp only at h
        split at h
        · cases h; exact ⟨by omega, hp⟩
        · cases h; exact ⟨by omega, ih.2⟩
    · have ih := ih b h
      exact ⟨by omega, ih.2⟩
theorem nrK_in (a : Ld) (h m : Nat) : ∀ (n : Nat), ∀ b, nrK a h m n = some b → b.1 < n ∧ b.2 ≤ 1000000
  | 0, b, hb => by cases hb
  | n + 1, b, hb => by
    unfold nrK at hb
    have ih := nrK_in a h m n
    have hp : dif (num a n m) (liv a h m) ≤ 1000000 := dif_le (num_in a n m) (liv_in _ _ _)
    cases hq : nrK a h m n with
    | none => rw [hq] at hb; cases hb; exact ⟨by omega, hp⟩
    | some b' =>
      rw [hq] at hb
      have ih := ih b' hq
      simp only at hb
      split at hb
      · cases hb; exact ⟨by omega, hp⟩
      · cases hb; exact ⟨by omega, ih.2⟩
theorem sumN_mono {f g : Nat → Nat} : ∀ {n : Nat}, (∀ k, k < n → f k ≤ g k) → sumN f n ≤ sumN g n
  | 0, _ => Nat.le_refl _
  | n + 1, h => by unfold sumN; exact Nat.add_le_add (sumN_mono (fun k hk => h k (by omega))) (h n (by omega))
theorem sTs_in {a : Ld} (ha : LdOk a) {m o s : Nat} : sTs a m o s ≤ 237125037600 := by
  refine Nat.le_trans (sumN_mono (g := pTh a o 0 m) (fun t _ => ?_)) (sumT_in ha (o := o) (li := 0) (m := m) (Nat.le_refl _))
  show (if s.testBit t = true then pTh a o 0 m t else 0) ≤ _
  split
  · exact Nat.le_refl _
  · exact Nat.zero_le _
theorem sOs_in {a : Ld} (ha : LdOk a) {m o s : Nat} : sOs a m o s ≤ 237125037600 := by
  refine Nat.le_trans (sumN_mono (g := pOw a o 0 m) (fun t _ => ?_)) (sumO_in ha (o := o) (li := 0) (m := m) (Nat.le_refl _))
  show (if s.testBit t = true then pOw a o 0 m t else 0) ≤ _
  split
  · exact Nat.le_refl _
  · exact Nat.zero_le _
def bcF (x0 : Int32) : Int32 :=
  let z1 : Int32 := (x0 - (((Int32.toUInt32 x0 >>> (Int32.toUInt32 1 &&& Int32.toUInt32 31)).toInt32) &&& 1431655765))
  let z2 : Int32 := ((z1 &&& 858993459) + (((Int32.toUInt32 z1 >>> (Int32.toUInt32 2 &&& Int32.toUInt32 31)).toInt32) &&& 858993459))
  let z3 : Int32 := ((z2 + ((Int32.toUInt32 z2 >>> (Int32.toUInt32 4 &&& Int32.toUInt32 31)).toInt32)) &&& 252645135)
  let z4 : Int32 := (z3 + ((Int32.toUInt32 z3 >>> (Int32.toUInt32 8 &&& Int32.toUInt32 31)).toInt32))
  let z5 : Int32 := (z4 + ((Int32.toUInt32 z4 >>> (Int32.toUInt32 16 &&& Int32.toUInt32 31)).toInt32))
  z5 &&& 63
theorem bcF_ok : ∀ s, s < 256 → bcF (nI s) = nI (bts s) := by decide +kernel
theorem bit_ok : ∀ s, s < 256 → ∀ t, t < 8 → (((nI s >>> (nI t &&& 31)) &&& nI 1 = nI 1) ↔ s.testBit t = true) := by decide +kernel
theorem shl_ok : ∀ n, n ≤ 8 → (nI 1 <<< (nI n &&& 31)) = nI (2 ^ n) := by decide +kernel
theorem pow_in : ∀ n, n ≤ 8 → 2 ^ n ≤ 256 := by decide +kernel
section D2
variable {l : Launch} {G : ax_G} {μ : ax_M} {y c L : Nat} {a : Ld}
theorem d77 {s : Nat} {K : Int32 → ax_M → Prop} (hs : s < 256) (q : K (nI (bts s)) μ) : ax_CI l G 77 [ax_i (nI s)] μ K := by
  rw [← bcF_ok s hs] at q
  refine ax_Ct.of (by decide) (Nat.le_of_ble_eq_true rfl) (sg77_0 l G _ _ _ ?_)
  intro z1 e1 z2 e2 z3 e3 z4 e4 z5 e5
  subst e1 e2 e3 e4 e5
  exact ⟨_, rfl, q⟩
theorem d41 {s b : Nat} {f : Nat → Nat} {K : Int64 → ax_M → Prop} (hy : TA μ y c L a) (hs : s < 256) (hk : mK μ b = 22) (hz : mZ μ b = 8) (hf : ∀ i, i < nTh a → gL μ b i = lN (f i)) (q : K (lN (sumN (fun t => if s.testBit t = true then f t else 0) (nTh a))) μ) : ax_CL l G 41 [ax_r (some y), ax_i (nI s), ax_r (some b)] μ K := by
  have hb := hy.bd
  refine ax_Ct.of (by decide) (Nat.le_of_ble_eq_true rfl) (sg41_0 l G _ y _ b _ ?_)
  refine up_to (P := fun t => (ax_Rw l G ax_h41 (ax_E G ax_h41 _) 5 [(0, ax_r (some y)), (1, ax_i (nI s)), (2, ax_r (some b)), (3, ax_l (lN (sumN (fun t => if s.testBit t = true then f t else 0) t))), (5, ax_i (nI t))] [] 0 0 μ)) (nTh a) ?_ (fun t ht ih => ?_) 0 (Nat.zero_le _)
  · refine sg41_5 l G _ y _ b _ _ _ ?_
    try simp (disch := omega) only [hy.1.1.1.1.2.1.all, hy.1.1.1.1.2.2.1, hy.1.1.1.1.2.2.2.1.1.all, hy.1.1.1.1.2.2.2.1.all, hy.1.1.1.tab, hy.1.1.2, hy.1.2, hy.2.1.all, hy.2.2.1, wr_s, in_nI, clN, ti_z, ti_l, true_and, and_true, kI, zI, rI, kL, zL, rL, kR, zR, nnI, nnL, nnR, iL, iR, lI, lR, exi, exl, exv, eq_self, nI_add, nI_mul, nI_sub, nI_ltI, nI_leI, nI_eq, q0, q1, q2, q3, q4, q5, q6, q10, q100, br_Tr, br_Fa, iI_s, iI_n, bI_q0, bI_q1, or_true, true_or, not_true_eq_false, not_false_eq_true, nI_l, ge64, Nat.lt_irrefl, Nat.add_sub_cancel, Nat.not_lt_zero, lN_0, lN_1e4, lN_1e6, lN_1e3, lN_add, lN_mul, lN_ltI, lN_leI, lN_eqI, lN_i, lcE, lcLe, lcLt, lN_div]
    exact q
  · refine sg41_5 l G _ y _ b _ _ _ ?_
    try simp (disch := omega) only [hy.1.1.1.1.2.1.all, hy.1.1.1.1.2.2.1, hy.1.1.1.1.2.2.2.1.1.all, hy.1.1.1.1.2.2.2.1.all, hy.1.1.1.tab, hy.1.1.2, hy.1.2, hy.2.1.all, hy.2.2.1, ht, hk, hz, hf, bit_ok s hs t (by omega), wr_s, in_nI, clN, ti_z, ti_l, true_and, and_true, kI, zI, rI, kL, zL, rL, kR, zR, nnI, nnL, nnR, iL, iR, lI, lR, exi, exl, exv, eq_self, nI_add, nI_mul, nI_sub, nI_ltI, nI_leI, nI_eq, q0, q1, q2, q3, q4, q5, q6, q10, q100, br_Tr, br_Fa, iI_s, iI_n, bI_q0, bI_q1, or_true, true_or, not_true_eq_false, not_false_eq_true, nI_l, ge64, Nat.lt_irrefl, Nat.add_sub_cancel, Nat.not_lt_zero, lN_0, lN_1e4, lN_1e6, lN_1e3, lN_add, lN_mul, lN_ltI, lN_leI, lN_eqI, lN_i, lcE, lcLe, lcLt, lN_div]
    rw [sumN_s] at ih
    refine ax_brc (fun h => ?_) (fun h => ?_)
    · simp only [h, if_true] at ih; exact ih
    · simp only [h, if_false] at ih; exact ih
theorem d199 {K : ax_M → Prop} (ha : LdOk a) (hc : isCourse μ c) (hl : RepL μ L a) (hy : isTally μ y c) (d1 : L + 42 ≤ c ∨ c + 81 ≤ L) (d2 : y + 7 ≤ c ∨ c + 81 ≤ y) (d3 : y + 7 ≤ L ∨ L + 42 ≤ y) (q : ∀ μ', Fr (fun b k => PC c b k ∨ PN y b k) (sR (sR μ y 4 (some L)) c 8 (some L)) μ' → TN μ' y c L a → K μ') : ax_CV l G 199 [ax_r (some y), ax_r (some L)] μ K := by
  have h64 := hy.1.1
  have hcg := hc.ge
  have hy1 := hy.sR (b := y) (k := 4) (x := some L) (Or.inr ⟨rfl, rfl⟩)
  have hc1 := hc.oR (b := y) (k := 4) (x := some L) (by omega)
  have hl1 := hl.sR (b := y) (k := 4) (x := some L) (by omega)
  refine ax_Ct.of (by decide) (Nat.le_of_ble_eq_true rfl) (sg199_0 l G _ y L _ ?_)
  try simp (disch := omega) only [hc.all, hy1.all, hc1.all, hy.all, wr_s, in_nI, clN, ti_z, ti_l, true_and, and_true, kI, zI, rI, kL, zL, rL, kR, zR, nnI, nnL, nnR, iL, iR, lI, lR, exi, exl, exv, eq_self, nI_add, nI_mul, nI_sub, nI_ltI, nI_leI, nI_eq, q0, q1, q2, q3, q4, q5, q6, q10, q100, br_Tr, br_Fa, iI_s, iI_n, bI_q0, bI_q1, or_true, true_or, not_true_eq_false, not_false_eq_true, nI_l, ge64, Nat.lt_irrefl, Nat.add_sub_cancel, Nat.not_lt_zero, lN_0, lN_1e4, lN_1e6, lN_1e3, lN_add, lN_mul, lN_ltI, lN_leI, lN_eqI, lN_i, lcE, lcLe, lcLt, lN_div]
  refine d184 ha hc1 hl1 d1 (fun μ2 f2 h2 => ?_)
  have hy2 : TA μ2 y c L a := by
    refine ⟨h2, (hy1.sR (b := c) (k := 8) (x := some L) (Or.inl (by omega))).fr f2, ?_, d2, d3⟩
    rw [f2.R, rR_n (by omega), rR_s]
  have hb := hy2.bd
  refine up_to (P := fun o => ∀ μo, Fr (PN y) μ2 μo → (∀ i, i < o → ∀ m, m < nMo a → gI μo (y + 2 + i) m = nI (num a i m)) → (ax_Rw l G ax_h199 (ax_E G ax_h199 (fun x μ' => x = none ∧ K μ')) 15 [(0, ax_r (some y)), (2, ax_i (nI o))] [] 0 0 μo)) (nOf a) (fun μo f hr => ?_) (fun o ho ih μo f hr => ?_) 0 (Nat.zero_le _) μ2 (Fr.refl _ _) (fun i hi => by omega)
  · have hyo := hy2.fr f (fun b k q => by unfold PN at q; omega)
    refine sg199_15 l G _ y _ _ ?_
    try simp (disch := omega) only [hyo.1.1.1.1.2.1.all, hyo.1.1.1.1.2.2.1, hyo.1.1.1.1.2.2.2.1.1.all, hyo.1.1.1.1.2.2.2.1.all, hyo.1.1.1.tab, hyo.1.1.2, hyo.1.2, hyo.2.1.all, hyo.2.2.1, wr_s, in_nI, clN, ti_z, ti_l, true_and, and_true, kI, zI, rI, kL, zL, rL, kR, zR, nnI, nnL, nnR, iL, iR, lI, lR, exi, exl, exv, eq_self, nI_add, nI_mul, nI_sub, nI_ltI, nI_leI, nI_eq, q0, q1, q2, q3, q4, q5, q6, q10, q100, br_Tr, br_Fa, iI_s, iI_n, bI_q0, bI_q1, or_true, true_or, not_true_eq_false, not_false_eq_true, nI_l, ge64, Nat.lt_irrefl, Nat.add_sub_cancel, Nat.not_lt_zero, lN_0, lN_1e4, lN_1e6, lN_1e3, lN_add, lN_mul, lN_ltI, lN_leI, lN_eqI, lN_i, lcE, lcLe, lcLt, lN_div]
    exact q μo ((f2.mono (fun b k q => Or.inl q)).trans (f.mono (fun b k q => Or.inr q))) ⟨hyo, fun o m ho hm => hr o ho m hm⟩
  · have hyo := hy2.fr f (fun b k q => by unfold PN at q; omega)
    refine sg199_15 l G _ y _ _ ?_
    try simp (disch := omega) only [hyo.1.1.1.1.2.1.all, hyo.1.1.1.1.2.2.1, hyo.1.1.1.1.2.2.2.1.1.all, hyo.1.1.1.1.2.2.2.1.all, hyo.1.1.1.tab, hyo.1.1.2, hyo.1.2, hyo.2.1.all, hyo.2.2.1, ho, q1e4, wr_s, in_nI, clN, ti_z, ti_l, true_and, and_true, kI, zI, rI, kL, zL, rL, kR, zR, nnI, nnL, nnR, iL, iR, lI, lR, exi, exl, exv, eq_self, nI_add, nI_mul, nI_sub, nI_ltI, nI_leI, nI_eq, q0, q1, q2, q3, q4, q5, q6, q10, q100, br_Tr, br_Fa, iI_s, iI_n, bI_q0, bI_q1, or_true, true_or, not_true_eq_false, not_false_eq_true, nI_l, ge64, Nat.lt_irrefl, Nat.add_sub_cancel, Nat.not_lt_zero, lN_0, lN_1e4, lN_1e6, lN_1e3, lN_add, lN_mul, lN_ltI, lN_leI, lN_eqI, lN_i, lcE, lcLe, lcLt, lN_div]
    refine up_to (P := fun j => ∀ μj, Fr (PN y) μ2 μj → (∀ i, i < o → ∀ m, m < nMo a → gI μj (y + 2 + i) m = nI (num a i m)) → (∀ m, m < j + 1 → gI μj (y + 2 + o) m = nI (num a o m)) → (ax_Rw l G ax_h199 (ax_E G ax_h199 (fun x μ' => x = none ∧ K μ')) 39 [(0, ax_r (some y)), (2, ax_i (nI o)), (3, ax_i (nI (j + 1)))] [] 0 0 μj)) (nMo a - 1) (fun μj f hr hn => ?_) (fun j hj ih' μj f hr hn => ?_) 0 (Nat.zero_le _) _ (f.put (by unfold PN; omega)) (fun i hi m hm => ?_) (fun m hm => ?_)
    · have hyj := hy2.fr f (fun b k q => by unfold PN at q; omega)
      refine sg199_39 l G _ y _ _ _ ?_
      try simp (disch := omega) only [hyj.1.1.1.1.2.1.all, hyj.1.1.1.1.2.2.1, hyj.1.1.1.1.2.2.2.1.1.all, hyj.1.1.1.1.2.2.2.1.all, hyj.1.1.1.tab, hyj.1.1.2, hyj.1.2, hyj.2.1.all, hyj.2.2.1, show ¬ (nMo a - 1 + 1 < nMo a) by omega, wr_s, in_nI, clN, ti_z, ti_l, true_and, and_true, kI, zI, rI, kL, zL, rL, kR, zR, nnI, nnL, nnR, iL, iR, lI, lR, exi, exl, exv, eq_self, nI_add, nI_mul, nI_sub, nI_ltI, nI_leI, nI_eq, q0, q1, q2, q3, q4, q5, q6, q10, q100, br_Tr, br_Fa, iI_s, iI_n, bI_q0, bI_q1, or_true, true_or, not_true_eq_false, not_false_eq_true, nI_l, ge64, Nat.lt_irrefl, Nat.add_sub_cancel, Nat.not_lt_zero, lN_0, lN_1e4, lN_1e6, lN_1e3, lN_add, lN_mul, lN_ltI, lN_leI, lN_eqI, lN_i, lcE, lcLe, lcLt, lN_div]
      exact ih μj f (lt_s hr (fun m hm => hn m (by omega)))
    · have hyj := hy2.fr f (fun b k q => by unfold PN at q; omega)
      refine sg199_39 l G _ y _ _ _ ?_
      try simp (disch := omega) only [hyj.1.1.1.1.2.1.all, hyj.1.1.1.1.2.2.1, hyj.1.1.1.1.2.2.2.1.1.all, hyj.1.1.1.1.2.2.2.1.all, hyj.1.1.1.tab, hyj.1.1.2, hyj.1.2, hyj.2.1.all, hyj.2.2.1, show j + 1 < nMo a by omega, wr_s, in_nI, clN, ti_z, ti_l, true_and, and_true, kI, zI, rI, kL, zL, rL, kR, zR, nnI, nnL, nnR, iL, iR, lI, lR, exi, exl, exv, eq_self, nI_add, nI_mul, nI_sub, nI_ltI, nI_leI, nI_eq, q0, q1, q2, q3, q4, q5, q6, q10, q100, br_Tr, br_Fa, iI_s, iI_n, bI_q0, bI_q1, or_true, true_or, not_true_eq_false, not_false_eq_true, nI_l, ge64, Nat.lt_irrefl, Nat.add_sub_cancel, Nat.not_lt_zero, lN_0, lN_1e4, lN_1e6, lN_1e3, lN_add, lN_mul, lN_ltI, lN_leI, lN_eqI, lN_i, lcE, lcLe, lcLt, lN_div]
      refine d177 hyj ho (by omega) (hn j (by omega)) ?_
      try simp (disch := omega) only [hyj.1.1.1.1.2.1.all, hyj.1.1.1.1.2.2.1, hyj.1.1.1.1.2.2.2.1.1.all, hyj.1.1.1.1.2.2.2.1.all, hyj.1.1.1.tab, hyj.1.1.2, hyj.1.2, hyj.2.1.all, hyj.2.2.1, wr_s, in_nI, clN, ti_z, ti_l, true_and, and_true, kI, zI, rI, kL, zL, rL, kR, zR, nnI, nnL, nnR, iL, iR, lI, lR, exi, exl, exv, eq_self, nI_add, nI_mul, nI_sub, nI_ltI, nI_leI, nI_eq, q0, q1, q2, q3, q4, q5, q6, q10, q100, br_Tr, br_Fa, iI_s, iI_n, bI_q0, bI_q1, or_true, true_or, not_true_eq_false, not_false_eq_true, nI_l, ge64, Nat.lt_irrefl, Nat.add_sub_cancel, Nat.not_lt_zero, lN_0, lN_1e4, lN_1e6, lN_1e3, lN_add, lN_mul, lN_ltI, lN_leI, lN_eqI, lN_i, lcE, lcLe, lcLt, lN_div]
      refine ih' _ (f.put (by unfold PN; omega)) (fun i hi m hm => ?_) (lt_s (fun m hm => ?_) (iI_s _ _ _ _))
      · rw [iI_n (by omega)]; exact hr i hi m hm
      · rw [iI_n (by omega)]; exact hn m hm
    · rw [iI_n (by omega)]; exact hr i hi m hm
    · have : m = 0 := by omega
      subst this
      exact iI_s _ _ _ _
theorem d40 {h o m : Nat} {K : Int32 → ax_M → Prop} (hy : TN μ y c L a) (hh : h < nHo a) (ho : o < nOf a) (hm : m < nMo a) (q : K (nI (pen a h o m)) μ) : ax_CI l G 40 [ax_r (some y), ax_i (nI h), ax_i (nI o), ax_i (nI m)] μ K := by
  have hb := hy.bd
  have hp := (hy.1.1.1.1.1.1.hw hh).2.1
  have hn := num_in a o m
  have hx : hP a h * num a o m ≤ 999 * 1000000 := Nat.mul_le_mul hp hn
  refine ax_Ct.of (by decide) (Nat.le_of_ble_eq_true rfl) (sg40_0 l G _ y _ _ _ _ ?_)
  try simp (disch := omega) only [hy.1.1.1.1.1.2.1.all, hy.1.1.1.1.1.2.2.1, hy.1.1.1.1.1.2.2.2.1.1.all, hy.1.1.1.1.1.2.2.2.1.all, hy.1.1.1.1.tab, hy.1.1.1.2, hy.1.1.2, hy.1.2.1.all, hy.1.2.2.1, hy.2, wr_s, in_nI, clN, ti_z, ti_l, true_and, and_true, kI, zI, rI, kL, zL, rL, kR, zR, nnI, nnL, nnR, iL, iR, lI, lR, exi, exl, exv, eq_self, nI_add, nI_mul, nI_sub, nI_ltI, nI_leI, nI_eq, q0, q1, q2, q3, q4, q5, q6, q10, q100, br_Tr, br_Fa, iI_s, iI_n, bI_q0, bI_q1, or_true, true_or, not_true_eq_false, not_false_eq_true, nI_l, ge64, Nat.lt_irrefl, Nat.add_sub_cancel, Nat.not_lt_zero, lN_0, lN_1e4, lN_1e6, lN_1e3, lN_add, lN_mul, lN_ltI, lN_leI, lN_eqI, lN_i, lcE, lcLe, lcLt, lN_div]
  exact ⟨by decide, q⟩
theorem pen_in {h o m : Nat} (ha : LdOk a) (hh : h < nHo a) : pen a h o m ≤ 99900 := by
  have hx : hP a h * num a o m ≤ 999 * 1000000 := Nat.mul_le_mul (ha.hw hh).2.1 (num_in a o m)
  unfold pen
  omega
theorem d187 {h o m : Nat} {K : Int32 → ax_M → Prop} (hy : TN μ y c L a) (hh : h < nHo a) (ho : o < nOf a) (hm : m < nMo a) (q : K (nI (lck a h o m)) μ) : ax_CI l G 187 [ax_r (some y), ax_i (nI h), ax_i (nI o), ax_i (nI m)] μ K := by
  have hb := hy.bd
  refine ax_Ct.of (by decide) (Nat.le_of_ble_eq_true rfl) (sg187_0 l G _ y _ _ _ _ ?_)
  refine up_to (P := fun i => (ax_Rw l G ax_h187 (ax_E G ax_h187 _) 6 [(0, ax_r (some y)), (1, ax_i (nI h)), (2, ax_i (nI o)), (3, ax_i (nI m)), (4, ax_i (nI (sumN (fun i => tru a h i - pen a h o i) i))), (5, ax_i (nI i))] [] 0 0 μ)) (m + 1) ?_ (fun i hi ih => ?_) 0 (Nat.zero_le _)
  · refine sg187_6 l G _ y _ _ _ _ _ _ ?_
    try simp (disch := omega) only [show ¬ (m + 1 ≤ m) by omega, wr_s, in_nI, clN, ti_z, ti_l, true_and, and_true, kI, zI, rI, kL, zL, rL, kR, zR, nnI, nnL, nnR, iL, iR, lI, lR, exi, exl, exv, eq_self, nI_add, nI_mul, nI_sub, nI_ltI, nI_leI, nI_eq, q0, q1, q2, q3, q4, q5, q6, q10, q100, br_Tr, br_Fa, iI_s, iI_n, bI_q0, bI_q1, or_true, true_or, not_true_eq_false, not_false_eq_true, nI_l, ge64, Nat.lt_irrefl, Nat.add_sub_cancel, Nat.not_lt_zero, lN_0, lN_1e4, lN_1e6, lN_1e3, lN_add, lN_mul, lN_ltI, lN_leI, lN_eqI, lN_i, lcE, lcLe, lcLt, lN_div]
    exact q
  · have h1 := tru_in hy.1.1.1.1.1.1 (m := i) hh
    have h2 := pen_in hy.1.1.1.1.1.1 (o := o) (m := i) hh
    refine sg187_6 l G _ y _ _ _ _ _ _ ?_
    try simp (disch := omega) only [show i ≤ m by omega, hy.1.1.1.1.1.2.1.all, hy.1.1.1.1.1.2.2.1, hy.1.1.1.1.1.2.2.2.1.1.all, hy.1.1.1.1.1.2.2.2.1.all, hy.1.1.1.1.tab, hy.1.1.1.2, hy.1.1.2, hy.1.2.1.all, hy.1.2.2.1, hy.2, wr_s, in_nI, clN, ti_z, ti_l, true_and, and_true, kI, zI, rI, kL, zL, rL, kR, zR, nnI, nnL, nnR, iL, iR, lI, lR, exi, exl, exv, eq_self, nI_add, nI_mul, nI_sub, nI_ltI, nI_leI, nI_eq, q0, q1, q2, q3, q4, q5, q6, q10, q100, br_Tr, br_Fa, iI_s, iI_n, bI_q0, bI_q1, or_true, true_or, not_true_eq_false, not_false_eq_true, nI_l, ge64, Nat.lt_irrefl, Nat.add_sub_cancel, Nat.not_lt_zero, lN_0, lN_1e4, lN_1e6, lN_1e3, lN_add, lN_mul, lN_ltI, lN_leI, lN_eqI, lN_i, lcE, lcLe, lcLt, lN_div]
    refine d170 hy.1.1.1.1 hh (by omega) ?_
    try simp (disch := omega) only [hy.1.1.1.1.1.2.1.all, hy.1.1.1.1.1.2.2.1, hy.1.1.1.1.1.2.2.2.1.1.all, hy.1.1.1.1.1.2.2.2.1.all, hy.1.1.1.1.tab, hy.1.1.1.2, hy.1.1.2, hy.1.2.1.all, hy.1.2.2.1, hy.2, wr_s, in_nI, clN, ti_z, ti_l, true_and, and_true, kI, zI, rI, kL, zL, rL, kR, zR, nnI, nnL, nnR, iL, iR, lI, lR, exi, exl, exv, eq_self, nI_add, nI_mul, nI_sub, nI_ltI, nI_leI, nI_eq, q0, q1, q2, q3, q4, q5, q6, q10, q100, br_Tr, br_Fa, iI_s, iI_n, bI_q0, bI_q1, or_true, true_or, not_true_eq_false, not_false_eq_true, nI_l, ge64, Nat.lt_irrefl, Nat.add_sub_cancel, Nat.not_lt_zero, lN_0, lN_1e4, lN_1e6, lN_1e3, lN_add, lN_mul, lN_ltI, lN_leI, lN_eqI, lN_i, lcE, lcLe, lcLt, lN_div]
    refine d40 hy hh ho (by omega) ?_
    try simp (disch := omega) only [max0, wr_s, in_nI, clN, ti_z, ti_l, true_and, and_true, kI, zI, rI, kL, zL, rL, kR, zR, nnI, nnL, nnR, iL, iR, lI, lR, exi, exl, exv, eq_self, nI_add, nI_mul, nI_ltI, nI_leI, nI_eq, q0, q1, q2, q3, q4, q5, q6, q10, q100, br_Tr, br_Fa, iI_s, iI_n, bI_q0, bI_q1, or_true, true_or, not_true_eq_false, not_false_eq_true, nI_l, ge64, Nat.lt_irrefl, Nat.add_sub_cancel, Nat.not_lt_zero, lN_0, lN_1e4, lN_1e6, lN_1e3, lN_add, lN_mul, lN_ltI, lN_leI, lN_eqI, lN_i, lcE, lcLe, lcLt, lN_div]
    exact ih
theorem d197 {h m : Nat} {K : Int32 → ax_M → Prop} (hy : TN μ y c L a) (hh : h < nHo a) (hm : m < nMo a) (q : K (eN ((nrK a h m (nOf a)).map Prod.fst)) μ) : ax_CI l G 197 [ax_r (some y), ax_i (nI h), ax_i (nI m)] μ K := by
  have hb := hy.bd
  have hlv := liv_in a h m
  refine ax_Ct.of (by decide) (Nat.le_of_ble_eq_true rfl) (sg197_0 l G _ y _ _ _ ?_)
  try simp (disch := omega) only [hy.1.1.1.1.1.2.1.all, hy.1.1.1.1.1.2.2.1, hy.1.1.1.1.1.2.2.2.1.1.all, hy.1.1.1.1.1.2.2.2.1.all, hy.1.1.1.1.tab, hy.1.1.1.2, hy.1.1.2, hy.1.2.1.all, hy.1.2.2.1, hy.2, wr_s, in_nI, clN, ti_z, ti_l, true_and, and_true, kI, zI, rI, kL, zL, rL, kR, zR, nnI, nnL, nnR, iL, iR, lI, lR, exi, exl, exv, eq_self, nI_add, nI_mul, nI_sub, nI_ltI, nI_leI, nI_eq, q0, q1, q2, q3, q4, q5, q6, q10, q100, br_Tr, br_Fa, iI_s, iI_n, bI_q0, bI_q1, or_true, true_or, not_true_eq_false, not_false_eq_true, nI_l, ge64, Nat.lt_irrefl, Nat.add_sub_cancel, Nat.not_lt_zero, lN_0, lN_1e4, lN_1e6, lN_1e3, lN_add, lN_mul, lN_ltI, lN_leI, lN_eqI, lN_i, lcE, lcLe, lcLt, lN_div]
  refine d185 hy.1.1.1.1 hh hm ?_
  refine up_to (P := fun o => (ax_Rw l G ax_h197 (ax_E G ax_h197 (fun x μ' => ∃ v : Int32, x = some (ax_i v) ∧ K v μ')) 19 [(0, ax_r (some y)), (2, ax_i (nI m)), (3, ax_i (nI (liv a h m))), (4, ax_i (eN ((nrK a h m o).map Prod.fst))), (5, ax_i (e5 (nrK a h m o))), (6, ax_i (nI o))] [] 0 0 μ)) (nOf a) ?_ (fun o ho ih => ?_) 0 (Nat.zero_le _)
  · refine sg197_19 l G _ y _ _ _ _ _ _ ?_
    try simp (disch := omega) only [hy.1.1.1.1.1.2.1.all, hy.1.1.1.1.1.2.2.1, hy.1.1.1.1.1.2.2.2.1.1.all, hy.1.1.1.1.1.2.2.2.1.all, hy.1.1.1.1.tab, hy.1.1.1.2, hy.1.1.2, hy.1.2.1.all, hy.1.2.2.1, hy.2, wr_s, in_nI, clN, ti_z, ti_l, true_and, and_true, kI, zI, rI, kL, zL, rL, kR, zR, nnI, nnL, nnR, iL, iR, lI, lR, exi, exl, exv, eq_self, nI_add, nI_mul, nI_sub, nI_ltI, nI_leI, nI_eq, q0, q1, q2, q3, q4, q5, q6, q10, q100, br_Tr, br_Fa, iI_s, iI_n, bI_q0, bI_q1, or_true, true_or, not_true_eq_false, not_false_eq_true, nI_l, ge64, Nat.lt_irrefl, Nat.add_sub_cancel, Nat.not_lt_zero, lN_0, lN_1e4, lN_1e6, lN_1e3, lN_add, lN_mul, lN_ltI, lN_leI, lN_eqI, lN_i, lcE, lcLe, lcLt, lN_div]
    exact q
  · have hn := num_in a o m
    refine sg197_19 l G _ y _ _ _ _ _ _ ?_
    try simp (disch := omega) only [hy.1.1.1.1.1.2.1.all, hy.1.1.1.1.1.2.2.1, hy.1.1.1.1.1.2.2.2.1.1.all, hy.1.1.1.1.1.2.2.2.1.all, hy.1.1.1.1.tab, hy.1.1.1.2, hy.1.1.2, hy.1.2.1.all, hy.1.2.2.1, hy.2, ho, abs_dif, wr_s, in_nI, clN, ti_z, ti_l, true_and, and_true, kI, zI, rI, kL, zL, rL, kR, zR, nnI, nnL, nnR, iL, iR, lI, lR, exi, exl, exv, eq_self, nI_add, nI_mul, nI_ltI, nI_leI, nI_eq, q0, q1, q2, q3, q4, q5, q6, q10, q100, br_Tr, br_Fa, iI_s, iI_n, bI_q0, bI_q1, or_true, true_or, not_true_eq_false, not_false_eq_true, nI_l, ge64, Nat.lt_irrefl, Nat.add_sub_cancel, Nat.not_lt_zero, lN_0, lN_1e4, lN_1e6, lN_1e3, lN_add, lN_mul, lN_ltI, lN_leI, lN_eqI, lN_i, lcE, lcLe, lcLt, lN_div]
    unfold nrK at ih
    cases hq : nrK a h m o with
    | none =>
      rw [hq] at ih
      exact ax_brt (by decide +kernel) ih
    | some b =>
      rw [hq] at ih
      have hi := nrK_in a h m o b hq
      have hd := dif_le hn hlv
      refine ax_brf ?_ ?_
      · intro q
        have q : nI b.1 = -nI 1 := q
        have h2 := nI_pos (show b.1 < 2 ^ 31 by omega)
        rw [q] at h2
        exact h2 (by decide +kernel)
      · simp only at ih
        refine br_lt (dif (num a o m) (liv a h m)) b.2 rfl rfl (by omega) (by omega) (fun h => ?_) (fun h => ?_)
        · rw [if_pos h] at ih; exact ih
        · rw [if_neg (by omega)] at ih; exact ih
theorem d178 {o : Nat} {K : Int32 → ax_M → Prop} (hy : TN μ y c L a) (ho : o < nOf a) (q : K (bI (hs0 a o)) μ) : ax_CI l G 178 [ax_r (some y), ax_i (nI o)] μ K := by
  have hb := hy.bd
  unfold hs0 at q
  refine ax_Ct.of (by decide) (Nat.le_of_ble_eq_true rfl) (sg178_0 l G _ y _ _ ?_)
  refine up_to (P := fun m => (∀ j, j < m → (!isBk a j || decide (num a o j = 10000)) = true) → (ax_Rw l G ax_h178 (ax_E G ax_h178 _) 2 [(0, ax_r (some y)), (1, ax_i (nI o)), (2, ax_i (nI m))] [] 0 0 μ)) (nMo a) (fun hf => ?_) (fun m hm ih hf => ?_) 0 (Nat.zero_le _) (fun j hj => by omega)
  · refine sg178_2 l G _ y _ _ _ ?_
    try simp (disch := omega) only [hy.1.1.1.1.1.2.1.all, hy.1.1.1.1.1.2.2.1, hy.1.1.1.1.1.2.2.2.1.1.all, hy.1.1.1.1.1.2.2.2.1.all, hy.1.1.1.1.tab, hy.1.1.1.2, hy.1.1.2, hy.1.2.1.all, hy.1.2.2.1, hy.2, wr_s, in_nI, clN, ti_z, ti_l, true_and, and_true, kI, zI, rI, kL, zL, rL, kR, zR, nnI, nnL, nnR, iL, iR, lI, lR, exi, exl, exv, eq_self, nI_add, nI_mul, nI_sub, nI_ltI, nI_leI, nI_eq, q0, q1, q2, q3, q4, q5, q6, q10, q100, br_Tr, br_Fa, iI_s, iI_n, bI_q0, bI_q1, or_true, true_or, not_true_eq_false, not_false_eq_true, nI_l, ge64, Nat.lt_irrefl, Nat.add_sub_cancel, Nat.not_lt_zero, lN_0, lN_1e4, lN_1e6, lN_1e3, lN_add, lN_mul, lN_ltI, lN_leI, lN_eqI, lN_i, lcE, lcLe, lcLt, lN_div]
    rw [allN_t hf, bI_1] at q
    exact q
  · have hn := num_in a o m
    refine sg178_2 l G _ y _ _ _ ?_
    try simp (disch := omega) only [hy.1.1.1.1.1.2.1.all, hy.1.1.1.1.1.2.2.1, hy.1.1.1.1.1.2.2.2.1.1.all, hy.1.1.1.1.1.2.2.2.1.all, hy.1.1.1.1.tab, hy.1.1.1.2, hy.1.1.2, hy.1.2.1.all, hy.1.2.2.1, hy.2, hm, wr_s, in_nI, clN, ti_z, ti_l, true_and, and_true, kI, zI, rI, kL, zL, rL, kR, zR, nnI, nnL, nnR, iL, iR, lI, lR, exi, exl, exv, eq_self, nI_add, nI_mul, nI_sub, nI_ltI, nI_leI, nI_eq, q0, q1, q2, q3, q4, q5, q6, q10, q100, br_Tr, br_Fa, iI_s, iI_n, bI_q0, bI_q1, or_true, true_or, not_true_eq_false, not_false_eq_true, nI_l, ge64, Nat.lt_irrefl, Nat.add_sub_cancel, Nat.not_lt_zero, lN_0, lN_1e4, lN_1e6, lN_1e3, lN_add, lN_mul, lN_ltI, lN_leI, lN_eqI, lN_i, lcE, lcLe, lcLt, lN_div]
    refine d136 hy.1.1.1.1 hm ?_
    try simp (disch := omega) only [hy.1.1.1.1.1.2.1.all, hy.1.1.1.1.1.2.2.1, hy.1.1.1.1.1.2.2.2.1.1.all, hy.1.1.1.1.1.2.2.2.1.all, hy.1.1.1.1.tab, hy.1.1.1.2, hy.1.1.2, hy.1.2.1.all, hy.1.2.2.1, hy.2, q1e4, wr_s, in_nI, clN, ti_z, ti_l, true_and, and_true, kI, zI, rI, kL, zL, rL, kR, zR, nnI, nnL, nnR, iL, iR, lI, lR, exi, exl, exv, eq_self, nI_add, nI_mul, nI_sub, nI_ltI, nI_leI, nI_eq, q0, q1, q2, q3, q4, q5, q6, q10, q100, br_Tr, br_Fa, iI_s, iI_n, bI_q0, bI_q1, or_true, true_or, not_true_eq_false, not_false_eq_true, nI_l, ge64, Nat.lt_irrefl, Nat.add_sub_cancel, Nat.not_lt_zero, lN_0, lN_1e4, lN_1e6, lN_1e3, lN_add, lN_mul, lN_ltI, lN_leI, lN_eqI, lN_i, lcE, lcLe, lcLt, lN_div]
    refine ax_brc (fun h => ih (lt_s hf (by simp [h]))) (fun h => ?_)
    refine ax_brc (fun h2 => ih (lt_s hf (by simp [h2]))) (fun h2 => ?_)
    rw [allN_f hm (by simp [show isBk a m = true by simpa using h, h2]), bI_z] at q
    exact q
theorem d104 {o : Nat} {K : Int32 → ax_M → Prop} (hy : TN μ y c L a) (ho : o < nOf a) (q : K (bI (hs1 a o)) μ) : ax_CI l G 104 [ax_r (some y), ax_i (nI o)] μ K := by
  have hb := hy.bd
  unfold hs1 at q
  refine ax_Ct.of (by decide) (Nat.le_of_ble_eq_true rfl) (sg104_0 l G _ y _ _ ?_)
  refine up_to (P := fun m => (∀ j, j < m → allN (fun t => !(decide (0 < allP a t (lsM a o j)) && !Tr a t j)) (nTh a) = true) → (ax_Rw l G ax_h104 (ax_E G ax_h104 _) 2 [(0, ax_r (some y)), (1, ax_i (nI o)), (2, ax_i (nI m))] [] 0 0 μ)) (nMo a) (fun hf => ?_) (fun m hm ih hf => ?_) 0 (Nat.zero_le _) (fun j hj => by omega)
  · refine sg104_2 l G _ y _ _ _ ?_
    try simp (disch := omega) only [hy.1.1.1.1.1.2.1.all, hy.1.1.1.1.1.2.2.1, hy.1.1.1.1.1.2.2.2.1.1.all, hy.1.1.1.1.1.2.2.2.1.all, hy.1.1.1.1.tab, hy.1.1.1.2, hy.1.1.2, hy.1.2.1.all, hy.1.2.2.1, hy.2, wr_s, in_nI, clN, ti_z, ti_l, true_and, and_true, kI, zI, rI, kL, zL, rL, kR, zR, nnI, nnL, nnR, iL, iR, lI, lR, exi, exl, exv, eq_self, nI_add, nI_mul, nI_sub, nI_ltI, nI_leI, nI_eq, q0, q1, q2, q3, q4, q5, q6, q10, q100, br_Tr, br_Fa, iI_s, iI_n, bI_q0, bI_q1, or_true, true_or, not_true_eq_false, not_false_eq_true, nI_l, ge64, Nat.lt_irrefl, Nat.add_sub_cancel, Nat.not_lt_zero, lN_0, lN_1e4, lN_1e6, lN_1e3, lN_add, lN_mul, lN_ltI, lN_leI, lN_eqI, lN_i, lcE, lcLe, lcLt, lN_div]
    rw [allN_t hf, bI_1] at q
    exact q
  · have hls := lsM_in (o := o) hm
    refine sg104_2 l G _ y _ _ _ ?_
    try simp (disch := omega) only [hy.1.1.1.1.1.2.1.all, hy.1.1.1.1.1.2.2.1, hy.1.1.1.1.1.2.2.2.1.1.all, hy.1.1.1.1.1.2.2.2.1.all, hy.1.1.1.1.tab, hy.1.1.1.2, hy.1.1.2, hy.1.2.1.all, hy.1.2.2.1, hy.2, hm, wr_s, in_nI, clN, ti_z, ti_l, true_and, and_true, kI, zI, rI, kL, zL, rL, kR, zR, nnI, nnL, nnR, iL, iR, lI, lR, exi, exl, exv, eq_self, nI_add, nI_mul, nI_sub, nI_ltI, nI_leI, nI_eq, q0, q1, q2, q3, q4, q5, q6, q10, q100, br_Tr, br_Fa, iI_s, iI_n, bI_q0, bI_q1, or_true, true_or, not_true_eq_false, not_false_eq_true, nI_l, ge64, Nat.lt_irrefl, Nat.add_sub_cancel, Nat.not_lt_zero, lN_0, lN_1e4, lN_1e6, lN_1e3, lN_add, lN_mul, lN_ltI, lN_leI, lN_eqI, lN_i, lcE, lcLe, lcLt, lN_div]
    refine d39 hy.1 ho hm ?_
    refine up_to (P := fun t => (∀ j, j < t → (!(decide (0 < allP a j (lsM a o m)) && !Tr a j m)) = true) → (ax_Rw l G ax_h104 (ax_E G ax_h104 (fun x μ' => ∃ v : Int32, x = some (ax_i v) ∧ K v μ')) 23 [(0, ax_r (some y)), (1, ax_i (nI o)), (2, ax_i (nI m)), (3, ax_i (nI (lsM a o m))), (4, ax_i (nI t))] [] 0 0 μ)) (nTh a) (fun hg => ?_) (fun t ht ih' hg => ?_) 0 (Nat.zero_le _) (fun j hj => by omega)
    · refine sg104_23 l G _ y _ _ _ _ _ ?_
      try simp (disch := omega) only [hy.1.1.1.1.1.2.1.all, hy.1.1.1.1.1.2.2.1, hy.1.1.1.1.1.2.2.2.1.1.all, hy.1.1.1.1.1.2.2.2.1.all, hy.1.1.1.1.tab, hy.1.1.1.2, hy.1.1.2, hy.1.2.1.all, hy.1.2.2.1, hy.2, wr_s, in_nI, clN, ti_z, ti_l, true_and, and_true, kI, zI, rI, kL, zL, rL, kR, zR, nnI, nnL, nnR, iL, iR, lI, lR, exi, exl, exv, eq_self, nI_add, nI_mul, nI_sub, nI_ltI, nI_leI, nI_eq, q0, q1, q2, q3, q4, q5, q6, q10, q100, br_Tr, br_Fa, iI_s, iI_n, bI_q0, bI_q1, or_true, true_or, not_true_eq_false, not_false_eq_true, nI_l, ge64, Nat.lt_irrefl, Nat.add_sub_cancel, Nat.not_lt_zero, lN_0, lN_1e4, lN_1e6, lN_1e3, lN_add, lN_mul, lN_ltI, lN_leI, lN_eqI, lN_i, lcE, lcLe, lcLt, lN_div]
      exact ih (lt_s hf (allN_t hg))
    · have hp := allP_in hy.1.1.1.1.1.1 (m := lsM a o m) ht
      refine sg104_23 l G _ y _ _ _ _ _ ?_
      try simp (disch := omega) only [hy.1.1.1.1.1.2.1.all, hy.1.1.1.1.1.2.2.1, hy.1.1.1.1.1.2.2.2.1.1.all, hy.1.1.1.1.1.2.2.2.1.all, hy.1.1.1.1.tab, hy.1.1.1.2, hy.1.1.2, hy.1.2.1.all, hy.1.2.2.1, hy.2, ht, wr_s, in_nI, clN, ti_z, ti_l, true_and, and_true, kI, zI, rI, kL, zL, rL, kR, zR, nnI, nnL, nnR, iL, iR, lI, lR, exi, exl, exv, eq_self, nI_add, nI_mul, nI_sub, nI_ltI, nI_leI, nI_eq, q0, q1, q2, q3, q4, q5, q6, q10, q100, br_Tr, br_Fa, iI_s, iI_n, bI_q0, bI_q1, or_true, true_or, not_true_eq_false, not_false_eq_true, nI_l, ge64, Nat.lt_irrefl, Nat.add_sub_cancel, Nat.not_lt_zero, lN_0, lN_1e4, lN_1e6, lN_1e3, lN_add, lN_mul, lN_ltI, lN_leI, lN_eqI, lN_i, lcE, lcLe, lcLt, lN_div]
      refine ax_brc (fun h => ih' (lt_s hg (by simp [show ¬ (0 < allP a t (lsM a o m)) by omega]))) (fun h => ?_)
      refine d14 hy.1.1.1.1 ht hm ?_
      try simp (disch := omega) only [wr_s, in_nI, clN, ti_z, ti_l, true_and, and_true, kI, zI, rI, kL, zL, rL, kR, zR, nnI, nnL, nnR, iL, iR, lI, lR, exi, exl, exv, eq_self, nI_add, nI_mul, nI_sub, nI_ltI, nI_leI, nI_eq, q0, q1, q2, q3, q4, q5, q6, q10, q100, br_Tr, br_Fa, iI_s, iI_n, bI_q0, bI_q1, or_true, true_or, not_true_eq_false, not_false_eq_true, nI_l, ge64, Nat.lt_irrefl, Nat.add_sub_cancel, Nat.not_lt_zero, lN_0, lN_1e4, lN_1e6, lN_1e3, lN_add, lN_mul, lN_ltI, lN_leI, lN_eqI, lN_i, lcE, lcLe, lcLt, lN_div]
      refine ax_brc (fun h2 => ?_) (fun h2 => ih' (lt_s hg (by simp [show Tr a t m = true by simpa using h2])))
      have e : allN (fun t => !(decide (0 < allP a t (lsM a o m)) && !Tr a t m)) (nTh a) = false := allN_f ht (by simp [h2, show 0 < allP a t (lsM a o m) by omega])
      rw [allN_f (f := fun m => allN (fun t => !(decide (0 < allP a t (lsM a o m)) && !Tr a t m)) (nTh a)) hm e, bI_z] at q
      exact q
theorem d200 {o : Nat} {K : Int32 → ax_M → Prop} (hy : TN μ y c L a) (ho : o < nOf a) (q : K (bI (hs2 a o)) μ) : ax_CI l G 200 [ax_r (some y), ax_i (nI o)] μ K := by
  have hb := hy.bd
  unfold hs2 at q
  refine ax_Ct.of (by decide) (Nat.le_of_ble_eq_true rfl) (sg200_0 l G _ y _ _ ?_)
  refine up_to (P := fun m => (∀ j, j < m → allN (fun h => decide (liv a h j ≤ num a o j)) (nHo a) = true) → (ax_Rw l G ax_h200 (ax_E G ax_h200 _) 2 [(0, ax_r (some y)), (1, ax_i (nI o)), (2, ax_i (nI m))] [] 0 0 μ)) (nMo a) (fun hf => ?_) (fun m hm ih hf => ?_) 0 (Nat.zero_le _) (fun j hj => by omega)
  · refine sg200_2 l G _ y _ _ _ ?_
    try simp (disch := omega) only [hy.1.1.1.1.1.2.1.all, hy.1.1.1.1.1.2.2.1, hy.1.1.1.1.1.2.2.2.1.1.all, hy.1.1.1.1.1.2.2.2.1.all, hy.1.1.1.1.tab, hy.1.1.1.2, hy.1.1.2, hy.1.2.1.all, hy.1.2.2.1, hy.2, wr_s, in_nI, clN, ti_z, ti_l, true_and, and_true, kI, zI, rI, kL, zL, rL, kR, zR, nnI, nnL, nnR, iL, iR, lI, lR, exi, exl, exv, eq_self, nI_add, nI_mul, nI_sub, nI_ltI, nI_leI, nI_eq, q0, q1, q2, q3, q4, q5, q6, q10, q100, br_Tr, br_Fa, iI_s, iI_n, bI_q0, bI_q1, or_true, true_or, not_true_eq_false, not_false_eq_true, nI_l, ge64, Nat.lt_irrefl, Nat.add_sub_cancel, Nat.not_lt_zero, lN_0, lN_1e4, lN_1e6, lN_1e3, lN_add, lN_mul, lN_ltI, lN_leI, lN_eqI, lN_i, lcE, lcLe, lcLt, lN_div]
    rw [allN_t hf, bI_1] at q
    exact q
  · have hn := num_in a o m
    refine sg200_2 l G _ y _ _ _ ?_
    try simp (disch := omega) only [hy.1.1.1.1.1.2.1.all, hy.1.1.1.1.1.2.2.1, hy.1.1.1.1.1.2.2.2.1.1.all, hy.1.1.1.1.1.2.2.2.1.all, hy.1.1.1.1.tab, hy.1.1.1.2, hy.1.1.2, hy.1.2.1.all, hy.1.2.2.1, hy.2, hm, wr_s, in_nI, clN, ti_z, ti_l, true_and, and_true, kI, zI, rI, kL, zL, rL, kR, zR, nnI, nnL, nnR, iL, iR, lI, lR, exi, exl, exv, eq_self, nI_add, nI_mul, nI_sub, nI_ltI, nI_leI, nI_eq, q0, q1, q2, q3, q4, q5, q6, q10, q100, br_Tr, br_Fa, iI_s, iI_n, bI_q0, bI_q1, or_true, true_or, not_true_eq_false, not_false_eq_true, nI_l, ge64, Nat.lt_irrefl, Nat.add_sub_cancel, Nat.not_lt_zero, lN_0, lN_1e4, lN_1e6, lN_1e3, lN_add, lN_mul, lN_ltI, lN_leI, lN_eqI, lN_i, lcE, lcLe, lcLt, lN_div]
    refine up_to (P := fun h => (∀ j, j < h → decide (liv a j m ≤ num a o m) = true) → (ax_Rw l G ax_h200 (ax_E G ax_h200 (fun x μ' => ∃ v : Int32, x = some (ax_i v) ∧ K v μ')) 15 [(0, ax_r (some y)), (1, ax_i (nI o)), (2, ax_i (nI m)), (3, ax_i (nI h))] [] 0 0 μ)) (nHo a) (fun hg => ?_) (fun h hh ih' hg => ?_) 0 (Nat.zero_le _) (fun j hj => by omega)
    · refine sg200_15 l G _ y _ _ _ _ ?_
      try simp (disch := omega) only [hy.1.1.1.1.1.2.1.all, hy.1.1.1.1.1.2.2.1, hy.1.1.1.1.1.2.2.2.1.1.all, hy.1.1.1.1.1.2.2.2.1.all, hy.1.1.1.1.tab, hy.1.1.1.2, hy.1.1.2, hy.1.2.1.all, hy.1.2.2.1, hy.2, wr_s, in_nI, clN, ti_z, ti_l, true_and, and_true, kI, zI, rI, kL, zL, rL, kR, zR, nnI, nnL, nnR, iL, iR, lI, lR, exi, exl, exv, eq_self, nI_add, nI_mul, nI_sub, nI_ltI, nI_leI, nI_eq, q0, q1, q2, q3, q4, q5, q6, q10, q100, br_Tr, br_Fa, iI_s, iI_n, bI_q0, bI_q1, or_true, true_or, not_true_eq_false, not_false_eq_true, nI_l, ge64, Nat.lt_irrefl, Nat.add_sub_cancel, Nat.not_lt_zero, lN_0, lN_1e4, lN_1e6, lN_1e3, lN_add, lN_mul, lN_ltI, lN_leI, lN_eqI, lN_i, lcE, lcLe, lcLt, lN_div]
      exact ih (lt_s hf (allN_t hg))
    · have hlv := liv_in a h m
      refine sg200_15 l G _ y _ _ _ _ ?_
      try simp (disch := omega) only [hy.1.1.1.1.1.2.1.all, hy.1.1.1.1.1.2.2.1, hy.1.1.1.1.1.2.2.2.1.1.all, hy.1.1.1.1.1.2.2.2.1.all, hy.1.1.1.1.tab, hy.1.1.1.2, hy.1.1.2, hy.1.2.1.all, hy.1.2.2.1, hy.2, hh, wr_s, in_nI, clN, ti_z, ti_l, true_and, and_true, kI, zI, rI, kL, zL, rL, kR, zR, nnI, nnL, nnR, iL, iR, lI, lR, exi, exl, exv, eq_self, nI_add, nI_mul, nI_sub, nI_ltI, nI_leI, nI_eq, q0, q1, q2, q3, q4, q5, q6, q10, q100, br_Tr, br_Fa, iI_s, iI_n, bI_q0, bI_q1, or_true, true_or, not_true_eq_false, not_false_eq_true, nI_l, ge64, Nat.lt_irrefl, Nat.add_sub_cancel, Nat.not_lt_zero, lN_0, lN_1e4, lN_1e6, lN_1e3, lN_add, lN_mul, lN_ltI, lN_leI, lN_eqI, lN_i, lcE, lcLe, lcLt, lN_div]
      refine d185 hy.1.1.1.1 hh hm ?_
      try simp (disch := omega) only [wr_s, in_nI, clN, ti_z, ti_l, true_and, and_true, kI, zI, rI, kL, zL, rL, kR, zR, nnI, nnL, nnR, iL, iR, lI, lR, exi, exl, exv, eq_self, nI_add, nI_mul, nI_sub, nI_ltI, nI_leI, nI_eq, q0, q1, q2, q3, q4, q5, q6, q10, q100, br_Tr, br_Fa, iI_s, iI_n, bI_q0, bI_q1, or_true, true_or, not_true_eq_false, not_false_eq_true, nI_l, ge64, Nat.lt_irrefl, Nat.add_sub_cancel, Nat.not_lt_zero, lN_0, lN_1e4, lN_1e6, lN_1e3, lN_add, lN_mul, lN_ltI, lN_leI, lN_eqI, lN_i, lcE, lcLe, lcLt, lN_div]
      refine ax_brc (fun h1 => ?_) (fun h1 => ih' (lt_s hg (by simp; omega)))
      have e : allN (fun h => decide (liv a h m ≤ num a o m)) (nHo a) = false := allN_f hh (by simp; omega)
      rw [allN_f (f := fun m => allN (fun h => decide (liv a h m ≤ num a o m)) (nHo a)) hm e, bI_z] at q
      exact q
theorem d198 {k m o : Nat} {K : Int32 → ax_M → Prop} (hy : TN μ y c L a) (hk : 1 ≤ k) (hk8 : k ≤ 8) (hm : m < nMo a) (ho : o < nOf a) (q : ∀ μ', FrL y μ μ' → K (e4 (lkK a k m o (2 ^ nTh a))) μ') : ax_CI l G 198 [ax_r (some y), ax_i (nI k), ax_i (nI m), ax_i (nI o)] μ K := by
  have hb := hy.bd
  have ha := hy.1.1.1.1.1.1
  refine ax_Ct.of (by decide) (Nat.le_of_ble_eq_true rfl) (sg198_0 l G _ y _ _ _ _ ?_)
  refine up_to (P := fun t => ∀ μt, FrL y μ μt → (∀ i, i < t → gL μt (y + 5) i = lN (pTh a o 0 m i) ∧ gL μt (y + 6) i = lN (pOw a o 0 m i)) → (ax_Rw l G ax_h198 (ax_E G ax_h198 (fun x μ' => ∃ v : Int32, x = some (ax_i v) ∧ K v μ')) 3 [(0, ax_r (some y)), (1, ax_i (nI k)), (2, ax_i (nI m)), (3, ax_i (nI o)), (4, ax_i (nI t))] [] 0 0 μt)) (nTh a) (fun μt f hr => ?_) (fun t ht ih μt f hr => ?_) 0 (Nat.zero_le _) μ (FrL.refl _ _) (fun i hi => by omega)
  · have hy := hy.frL f
    have q := q μt f
    have hp := pow_in (nTh a) (by omega)
    have h1p : 1 ≤ 2 ^ nTh a := Nat.one_le_two_pow
    have hsh := shl_ok (nTh a) (by omega)
    have hlv := liv_in a 0 m
    refine sg198_3 l G _ y _ _ _ _ _ ?_
    try simp (disch := omega) only [hy.1.1.1.1.1.2.1.all, hy.1.1.1.1.1.2.2.1, hy.1.1.1.1.1.2.2.2.1.1.all, hy.1.1.1.1.1.2.2.2.1.all, hy.1.1.1.1.tab, hy.1.1.1.2, hy.1.1.2, hy.1.2.1.all, hy.1.2.2.1, hy.2, wr_s, in_nI, clN, ti_z, ti_l, true_and, and_true, kI, zI, rI, kL, zL, rL, kR, zR, nnI, nnL, nnR, iL, iR, lI, lR, exi, exl, exv, eq_self, nI_add, nI_mul, nI_sub, nI_ltI, nI_leI, nI_eq, q0, q1, q2, q3, q4, q5, q6, q10, q100, br_Tr, br_Fa, iI_s, iI_n, bI_q0, bI_q1, or_true, true_or, not_true_eq_false, not_false_eq_true, nI_l, ge64, Nat.lt_irrefl, Nat.add_sub_cancel, Nat.not_lt_zero, lN_0, lN_1e4, lN_1e6, lN_1e3, lN_add, lN_mul, lN_ltI, lN_leI, lN_eqI, lN_i, lcE, lcLe, lcLt, lN_div]
    refine d185 hy.1.1.1.1 (by omega) hm ?_
    generalize 2 ^ nTh a = N at q hp h1p hsh
    have e0 : lkK a k m o 1 = none := by
      show (if bts 0 = k ∧ 0 < sOs a m o 0 then _ else _) = _
      rw [if_neg (fun q => by have : bts 0 = 0 := (by decide +kernel); omega)]; rfl
    suffices st : (ax_Rw l G ax_h198 (ax_E G ax_h198 (fun x μ' => ∃ v : Int32, x = some (ax_i v) ∧ K v μ')) 74 [(0, ax_r (some y)), (1, ax_i (nI k)), (4, ax_i (nI (liv a 0 m))), (5, ax_i (e4 (lkK a k m o 1))), (6, ax_i (e5 (lkK a k m o 1))), (7, ax_i (nI 1))] [] 0 0 μt) by
      rw [e0] at st; exact st
    refine up_to (P := fun j => (ax_Rw l G ax_h198 (ax_E G ax_h198 (fun x μ' => ∃ v : Int32, x = some (ax_i v) ∧ K v μ')) 74 [(0, ax_r (some y)), (1, ax_i (nI k)), (4, ax_i (nI (liv a 0 m))), (5, ax_i (e4 (lkK a k m o (j + 1)))), (6, ax_i (e5 (lkK a k m o (j + 1)))), (7, ax_i (nI (j + 1)))] [] 0 0 μt)) (N - 1) ?_ (fun j hj ih => ?_) 0 (Nat.zero_le _)
    · refine sg198_74 l G _ y _ _ _ _ _ _ ?_
      try simp (disch := omega) only [hy.1.1.1.1.1.2.1.all, hy.1.1.1.1.1.2.2.1, hy.1.1.1.1.1.2.2.2.1.1.all, hy.1.1.1.1.1.2.2.2.1.all, hy.1.1.1.1.tab, hy.1.1.1.2, hy.1.1.2, hy.1.2.1.all, hy.1.2.2.1, hy.2, hsh, show ¬ (N - 1 + 1 < N) by omega, wr_s, in_nI, clN, ti_z, ti_l, true_and, and_true, kI, zI, rI, kL, zL, rL, kR, zR, nnI, nnL, nnR, iL, iR, lI, lR, exi, exl, exv, eq_self, nI_add, nI_mul, nI_sub, nI_ltI, nI_leI, nI_eq, q0, q1, q2, q3, q4, q5, q6, q10, q100, br_Tr, br_Fa, iI_s, iI_n, bI_q0, bI_q1, or_true, true_or, not_true_eq_false, not_false_eq_true, nI_l, ge64, Nat.lt_irrefl, Nat.add_sub_cancel, Nat.not_lt_zero, lN_0, lN_1e4, lN_1e6, lN_1e3, lN_add, lN_mul, lN_ltI, lN_leI, lN_eqI, lN_i, lcE, lcLe, lcLt, lN_div]
      rw [show N - 1 + 1 = N by omega]
      exact q
    · have hoi := sOs_in ha (m := m) (o := o) (s := j + 1)
      have hti := sTs_in ha (m := m) (o := o) (s := j + 1)
      have hri := rat_le (sTs a m o (j + 1)) (sOs a m o (j + 1))
      have hgi := gapS_in a m o (j + 1)
      have hbi : bts (j + 1) ≤ 8 := by
        have := sumN_le (f := fun i => ((j + 1).testBit i).toNat) (b := 1) (n := 8) (fun i _ => by cases h : (j + 1).testBit i <;> simp [h])
        unfold bts; omega
      rw [show lkK a k m o (j + 1 + 1) = (if bts (j + 1) = k ∧ 0 < sOs a m o (j + 1) then (match lkK a k m o (j + 1) with
        | none => some (j + 1, gapS a m o (j + 1))
        | some b => if gapS a m o (j + 1) < b.2 then some (j + 1, gapS a m o (j + 1)) else some b) else lkK a k m o (j + 1)) from rfl] at ih
      refine sg198_74 l G _ y _ _ _ _ _ _ ?_
      try simp (disch := omega) only [hy.1.1.1.1.1.2.1.all, hy.1.1.1.1.1.2.2.1, hy.1.1.1.1.1.2.2.2.1.1.all, hy.1.1.1.1.1.2.2.2.1.all, hy.1.1.1.1.tab, hy.1.1.1.2, hy.1.1.2, hy.1.2.1.all, hy.1.2.2.1, hy.2, hsh, show j + 1 < N by omega, wr_s, in_nI, clN, ti_z, ti_l, true_and, and_true, kI, zI, rI, kL, zL, rL, kR, zR, nnI, nnL, nnR, iL, iR, lI, lR, exi, exl, exv, eq_self, nI_add, nI_mul, nI_sub, nI_ltI, nI_leI, nI_eq, q0, q1, q2, q3, q4, q5, q6, q10, q100, br_Tr, br_Fa, iI_s, iI_n, bI_q0, bI_q1, or_true, true_or, not_true_eq_false, not_false_eq_true, nI_l, ge64, Nat.lt_irrefl, Nat.add_sub_cancel, Nat.not_lt_zero, lN_0, lN_1e4, lN_1e6, lN_1e3, lN_add, lN_mul, lN_ltI, lN_leI, lN_eqI, lN_i, lcE, lcLe, lcLt, lN_div]
      refine d77 (by omega) ?_
      try simp (disch := omega) only [hy.1.1.1.1.1.2.1.all, hy.1.1.1.1.1.2.2.1, hy.1.1.1.1.1.2.2.2.1.1.all, hy.1.1.1.1.1.2.2.2.1.all, hy.1.1.1.1.tab, hy.1.1.1.2, hy.1.1.2, hy.1.2.1.all, hy.1.2.2.1, hy.2, wr_s, in_nI, clN, ti_z, ti_l, true_and, and_true, kI, zI, rI, kL, zL, rL, kR, zR, nnI, nnL, nnR, iL, iR, lI, lR, exi, exl, exv, eq_self, nI_add, nI_mul, nI_sub, nI_ltI, nI_leI, nI_eq, q0, q1, q2, q3, q4, q5, q6, q10, q100, br_Tr, br_Fa, iI_s, iI_n, bI_q0, bI_q1, or_true, true_or, not_true_eq_false, not_false_eq_true, nI_l, ge64, Nat.lt_irrefl, Nat.add_sub_cancel, Nat.not_lt_zero, lN_0, lN_1e4, lN_1e6, lN_1e3, lN_add, lN_mul, lN_ltI, lN_leI, lN_eqI, lN_i, lcE, lcLe, lcLt, lN_div]
      refine ax_brc (fun h1 => ?_) (fun h1 => ?_)
      · refine d41 hy.1 (s := j + 1) (f := pOw a o 0 m) (by omega) (by try simp (disch := omega) only [hy.1.1.1.1.1.2.1.all, hy.1.1.1.1.1.2.2.1, hy.1.1.1.1.1.2.2.2.1.1.all, hy.1.1.1.1.1.2.2.2.1.all, hy.1.1.1.1.tab, hy.1.1.1.2, hy.1.1.2, hy.1.2.1.all, hy.1.2.2.1, hy.2, wr_s, in_nI, clN, ti_z, ti_l, true_and, and_true, kI, zI, rI, kL, zL, rL, kR, zR, nnI, nnL, nnR, iL, iR, lI, lR, exi, exl, exv, eq_self, nI_add, nI_mul, nI_sub, nI_ltI, nI_leI, nI_eq, q0, q1, q2, q3, q4, q5, q6, q10, q100, br_Tr, br_Fa, iI_s, iI_n, bI_q0, bI_q1, or_true, true_or, not_true_eq_false, not_false_eq_true, nI_l, ge64, Nat.lt_irrefl, Nat.add_sub_cancel, Nat.not_lt_zero, lN_0, lN_1e4, lN_1e6, lN_1e3, lN_add, lN_mul, lN_ltI, lN_leI, lN_eqI, lN_i, lcE, lcLe, lcLt, lN_div]) (by try simp (disch := omega) only [hy.1.1.1.1.1.2.1.all, hy.1.1.1.1.1.2.2.1, hy.1.1.1.1.1.2.2.2.1.1.all, hy.1.1.1.1.1.2.2.2.1.all, hy.1.1.1.1.tab, hy.1.1.1.2, hy.1.1.2, hy.1.2.1.all, hy.1.2.2.1, hy.2, wr_s, in_nI, clN, ti_z, ti_l, true_and, and_true, kI, zI, rI, kL, zL, rL, kR, zR, nnI, nnL, nnR, iL, iR, lI, lR, exi, exl, exv, eq_self, nI_add, nI_mul, nI_sub, nI_ltI, nI_leI, nI_eq, q0, q1, q2, q3, q4, q5, q6, q10, q100, br_Tr, br_Fa, iI_s, iI_n, bI_q0, bI_q1, or_true, true_or, not_true_eq_false, not_false_eq_true, nI_l, ge64, Nat.lt_irrefl, Nat.add_sub_cancel, Nat.not_lt_zero, lN_0, lN_1e4, lN_1e6, lN_1e3, lN_add, lN_mul, lN_ltI, lN_leI, lN_eqI, lN_i, lcE, lcLe, lcLt, lN_div]) (fun i hi => (hr i hi).2) ?_
        have e1 : sumN (fun t => if (j + 1).testBit t = true then pOw a o 0 m t else 0) (nTh a) = sOs a m o (j + 1) := rfl
        rw [e1]
        try simp (disch := omega) only [hy.1.1.1.1.1.2.1.all, hy.1.1.1.1.1.2.2.1, hy.1.1.1.1.1.2.2.2.1.1.all, hy.1.1.1.1.1.2.2.2.1.all, hy.1.1.1.1.tab, hy.1.1.1.2, hy.1.1.2, hy.1.2.1.all, hy.1.2.2.1, hy.2, wr_s, in_nI, clN, ti_z, ti_l, true_and, and_true, kI, zI, rI, kL, zL, rL, kR, zR, nnI, nnL, nnR, iL, iR, lI, lR, exi, exl, exv, eq_self, nI_add, nI_mul, nI_sub, nI_ltI, nI_leI, nI_eq, q0, q1, q2, q3, q4, q5, q6, q10, q100, br_Tr, br_Fa, iI_s, iI_n, bI_q0, bI_q1, or_true, true_or, not_true_eq_false, not_false_eq_true, nI_l, ge64, Nat.lt_irrefl, Nat.add_sub_cancel, Nat.not_lt_zero, lN_0, lN_1e4, lN_1e6, lN_1e3, lN_add, lN_mul, lN_ltI, lN_leI, lN_eqI, lN_i, lcE, lcLe, lcLt, lN_div]
        refine ax_brc (fun h2 => ?_) (fun h2 => ?_)
        · rw [if_neg (fun q => by omega)] at ih
          exact ih
        · rw [if_pos ⟨h1, by omega⟩] at ih
          refine d41 hy.1 (s := j + 1) (f := pTh a o 0 m) (by omega) (by try simp (disch := omega) only [hy.1.1.1.1.1.2.1.all, hy.1.1.1.1.1.2.2.1, hy.1.1.1.1.1.2.2.2.1.1.all, hy.1.1.1.1.1.2.2.2.1.all, hy.1.1.1.1.tab, hy.1.1.1.2, hy.1.1.2, hy.1.2.1.all, hy.1.2.2.1, hy.2, wr_s, in_nI, clN, ti_z, ti_l, true_and, and_true, kI, zI, rI, kL, zL, rL, kR, zR, nnI, nnL, nnR, iL, iR, lI, lR, exi, exl, exv, eq_self, nI_add, nI_mul, nI_sub, nI_ltI, nI_leI, nI_eq, q0, q1, q2, q3, q4, q5, q6, q10, q100, br_Tr, br_Fa, iI_s, iI_n, bI_q0, bI_q1, or_true, true_or, not_true_eq_false, not_false_eq_true, nI_l, ge64, Nat.lt_irrefl, Nat.add_sub_cancel, Nat.not_lt_zero, lN_0, lN_1e4, lN_1e6, lN_1e3, lN_add, lN_mul, lN_ltI, lN_leI, lN_eqI, lN_i, lcE, lcLe, lcLt, lN_div]) (by try simp (disch := omega) only [hy.1.1.1.1.1.2.1.all, hy.1.1.1.1.1.2.2.1, hy.1.1.1.1.1.2.2.2.1.1.all, hy.1.1.1.1.1.2.2.2.1.all, hy.1.1.1.1.tab, hy.1.1.1.2, hy.1.1.2, hy.1.2.1.all, hy.1.2.2.1, hy.2, wr_s, in_nI, clN, ti_z, ti_l, true_and, and_true, kI, zI, rI, kL, zL, rL, kR, zR, nnI, nnL, nnR, iL, iR, lI, lR, exi, exl, exv, eq_self, nI_add, nI_mul, nI_sub, nI_ltI, nI_leI, nI_eq, q0, q1, q2, q3, q4, q5, q6, q10, q100, br_Tr, br_Fa, iI_s, iI_n, bI_q0, bI_q1, or_true, true_or, not_true_eq_false, not_false_eq_true, nI_l, ge64, Nat.lt_irrefl, Nat.add_sub_cancel, Nat.not_lt_zero, lN_0, lN_1e4, lN_1e6, lN_1e3, lN_add, lN_mul, lN_ltI, lN_leI, lN_eqI, lN_i, lcE, lcLe, lcLt, lN_div]) (fun i hi => (hr i hi).1) ?_
          have e2 : sumN (fun t => if (j + 1).testBit t = true then pTh a o 0 m t else 0) (nTh a) = sTs a m o (j + 1) := rfl
          rw [e2]
          refine d85 (by omega) (by omega) ?_
          try simp (disch := omega) only [abs_dif, wr_s, in_nI, clN, ti_z, ti_l, true_and, and_true, kI, zI, rI, kL, zL, rL, kR, zR, nnI, nnL, nnR, iL, iR, lI, lR, exi, exl, exv, eq_self, nI_add, nI_mul, nI_ltI, nI_leI, nI_eq, q0, q1, q2, q3, q4, q5, q6, q10, q100, br_Tr, br_Fa, iI_s, iI_n, bI_q0, bI_q1, or_true, true_or, not_true_eq_false, not_false_eq_true, nI_l, ge64, Nat.lt_irrefl, Nat.add_sub_cancel, Nat.not_lt_zero, lN_0, lN_1e4, lN_1e6, lN_1e3, lN_add, lN_mul, lN_ltI, lN_leI, lN_eqI, lN_i, lcE, lcLe, lcLt, lN_div]
          rw [show dif (rat (sTs a m o (j + 1)) (sOs a m o (j + 1))) (liv a 0 m) = gapS a m o (j + 1) from rfl]
          cases hq : lkK a k m o (j + 1) with
          | none =>
            rw [hq] at ih
            exact ax_brt (by decide +kernel) ih
          | some b =>
            rw [hq] at ih
            have hi := lkK_in a k m o (j + 1) b hq
            refine ax_brf (nI_pos (by omega)) ?_
            simp only at ih
            refine br_lt (gapS a m o (j + 1)) b.2 rfl rfl (by omega) (by omega) (fun h => ?_) (fun h => ?_)
            · rw [if_pos h] at ih; exact ih
            · rw [if_neg (by omega)] at ih; exact ih
      · rw [if_neg (fun q => h1 q.1)] at ih
        try simp (disch := omega) only [Nat.le_refl, wr_s, in_nI, clN, ti_z, ti_l, true_and, and_true, kI, zI, rI, kL, zL, rL, kR, zR, nnI, nnL, nnR, iL, iR, lI, lR, exi, exl, exv, eq_self, nI_add, nI_mul, nI_sub, nI_ltI, nI_leI, nI_eq, q0, q1, q2, q3, q4, q5, q6, q10, q100, br_Tr, br_Fa, iI_s, iI_n, bI_q0, bI_q1, or_true, true_or, not_true_eq_false, not_false_eq_true, nI_l, ge64, Nat.lt_irrefl, Nat.add_sub_cancel, Nat.not_lt_zero, lN_0, lN_1e4, lN_1e6, lN_1e3, lN_add, lN_mul, lN_ltI, lN_leI, lN_eqI, lN_i, lcE, lcLe, lcLt, lN_div]
        exact ih
  · have hy := hy.frL f
    refine sg198_3 l G _ y _ _ _ _ _ ?_
    try simp (disch := omega) only [hy.1.1.1.1.1.2.1.all, hy.1.1.1.1.1.2.2.1, hy.1.1.1.1.1.2.2.2.1.1.all, hy.1.1.1.1.1.2.2.2.1.all, hy.1.1.1.1.tab, hy.1.1.1.2, hy.1.1.2, hy.1.2.1.all, hy.1.2.2.1, hy.2, ht, wr_s, in_nI, clN, ti_z, ti_l, true_and, and_true, kI, zI, rI, kL, zL, rL, kR, zR, nnI, nnL, nnR, iL, iR, lI, lR, exi, exl, exv, eq_self, nI_add, nI_mul, nI_sub, nI_ltI, nI_leI, nI_eq, q0, q1, q2, q3, q4, q5, q6, q10, q100, br_Tr, br_Fa, iI_s, iI_n, bI_q0, bI_q1, or_true, true_or, not_true_eq_false, not_false_eq_true, nI_l, ge64, Nat.lt_irrefl, Nat.add_sub_cancel, Nat.not_lt_zero, lN_0, lN_1e4, lN_1e6, lN_1e3, lN_add, lN_mul, lN_ltI, lN_leI, lN_eqI, lN_i, lcE, lcLe, lcLt, lN_div]
    refine d146 hy.1 ho ht (by omega) hm ?_
    try simp (disch := omega) only [hy.1.1.1.1.1.2.1.all, hy.1.1.1.1.1.2.2.1, hy.1.1.1.1.1.2.2.2.1.1.all, hy.1.1.1.1.1.2.2.2.1.all, hy.1.1.1.1.tab, hy.1.1.1.2, hy.1.1.2, hy.1.2.1.all, hy.1.2.2.1, hy.2, wr_s, in_nI, clN, ti_z, ti_l, true_and, and_true, kI, zI, rI, kL, zL, rL, kR, zR, nnI, nnL, nnR, iL, iR, lI, lR, exi, exl, exv, eq_self, nI_add, nI_mul, nI_sub, nI_ltI, nI_leI, nI_eq, q0, q1, q2, q3, q4, q5, q6, q10, q100, br_Tr, br_Fa, iI_s, iI_n, bI_q0, bI_q1, or_true, true_or, not_true_eq_false, not_false_eq_true, nI_l, ge64, Nat.lt_irrefl, Nat.add_sub_cancel, Nat.not_lt_zero, lN_0, lN_1e4, lN_1e6, lN_1e3, lN_add, lN_mul, lN_ltI, lN_leI, lN_eqI, lN_i, lcE, lcLe, lcLt, lN_div]
    have hy5 := hy.frL ((FrL.refl y μt).put (a := y + 5) (k := t) (v := lN (pTh a o 0 m t)) (Or.inl rfl))
    refine d145 hy5.1 ho ht (by omega) hm ?_
    try simp (disch := omega) only [hy.1.1.1.1.1.2.1.all, hy.1.1.1.1.1.2.2.1, hy.1.1.1.1.1.2.2.2.1.1.all, hy.1.1.1.1.1.2.2.2.1.all, hy.1.1.1.1.tab, hy.1.1.1.2, hy.1.1.2, hy.1.2.1.all, hy.1.2.2.1, hy.2, wr_s, in_nI, clN, ti_z, ti_l, true_and, and_true, kI, zI, rI, kL, zL, rL, kR, zR, nnI, nnL, nnR, iL, iR, lI, lR, exi, exl, exv, eq_self, nI_add, nI_mul, nI_sub, nI_ltI, nI_leI, nI_eq, q0, q1, q2, q3, q4, q5, q6, q10, q100, br_Tr, br_Fa, iI_s, iI_n, bI_q0, bI_q1, or_true, true_or, not_true_eq_false, not_false_eq_true, nI_l, ge64, Nat.lt_irrefl, Nat.add_sub_cancel, Nat.not_lt_zero, lN_0, lN_1e4, lN_1e6, lN_1e3, lN_add, lN_mul, lN_ltI, lN_leI, lN_eqI, lN_i, lcE, lcLe, lcLt, lN_div]
    refine ih _ ((f.put (Or.inl rfl)).put (Or.inr rfl)) (lt_s (fun i hi => ?_) ?_)
    · rw [lL_n (by omega), lL_n (by omega), lL_n (by omega), lL_n (by omega)]; exact hr i hi
    · rw [lL_n (by omega), lL_s, lL_s]; exact ⟨rfl, rfl⟩
end D2
