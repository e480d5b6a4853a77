/-! the class: land and feed -/
theorem XW.fl {μ : ax_M} {st : St} {L M a b : Nat} (h : XW μ st L M) : XW (sI (sI (sI μ 64 10 (nI a)) 64 11 (nI b)) 64 9 (nI 4)) (st.1, st.2.1, 4, a, b, lan st) L M := by
  have hb := h.bd
  obtain ⟨hs, g1, g2, g3, g4, g5, g6⟩ := h
  have f : Fr (fun b k => b = 64 ∧ (k = 9 ∨ k = 10 ∨ k = 11)) μ (sI (sI (sI μ 64 10 (nI a)) 64 11 (nI b)) 64 9 (nI 4)) := (((Fr.refl _ _).put ⟨rfl, by omega⟩).put ⟨rfl, by omega⟩).put ⟨rfl, by omega⟩
  refine ⟨hs.fr f, ⟨by rw [f.I (by omega)]; exact g1.1, iI_s _ _ _ _, ?_⟩, ⟨g2.1, by show 4 ≤ 6; omega⟩, fun _ => ?_, fun i hi => ?_, fun k hk => ?_, fun a ha => (g6 a ha).fr f (fun b k q => by obtain ⟨q, -⟩ := q; omega)⟩
  · rw [iI_n (by omega), iI_n (by omega)]; exact iI_s _ _ _ _
  · rw [iI_n (by omega)]; exact iI_s _ _ _ _
  · rw [f.I (by omega)]; exact g4 i hi
  · rw [f.I (by omega)]; exact g5 k hk
section T9
variable {l : Launch} {G : ax_G} {μ : ax_M} {st : St}
theorem p229 {x : Int32} {K : Int32 → ax_M → Prop} (hG : GC G) (hx : X μ st) (q : ∀ μ', Out 64 332 μ μ' → X μ' (aLand st x).2 → K (aLand st x).1 μ') : ax_CI l G 229 [ax_r (some 64), ax_i x] μ K := by
  obtain ⟨L, M, hx⟩ := hx
  have hb := hx.bd
  unfold aLand at q
  refine ax_Ct.of (by decide) (Nat.le_of_ble_eq_true rfl) (sg229_0 l G _ 64 _ _ ?_)
  try simp (disch := omega) only [hx.all, hx.1.2.2.1.all, wr_s, in_nI, clN, ti_z, ti_l, true_and, and_true, kI, zI, rI, kL, zL, rL, kR, zR, nnI, nnL, nnR, iL, iR, lI, lR, exi, exl, exv, eq_self, nI_add, nI_mul, nI_sub, nI_ltI, nI_leI, nI_eq, q0, q1, q2, q3, q4, q5, q6, q10, q100, br_Tr, br_Fa, iI_s, iI_n, bI_q0, bI_q1, or_true, true_or, not_true_eq_false, not_false_eq_true, nI_l, ge64, Nat.lt_irrefl, Nat.add_sub_cancel, Nat.not_lt_zero, lN_0, lN_1e4, lN_1e6, lN_1e3, lN_add, lN_mul, lN_ltI, lN_leI, lN_eqI, lN_i, lcE, lcLe, lcLt, lN_div, q7, q12, q20, q99, q200, q999, q1e4, if_true, if_false, Nat.le_refl, q8, q11, q16, q18, q32, q44, q48, q57, q59, q97, q122, q900]
  refine ax_brc (fun c1 => ?_) (fun c1 => ?_)
  · rw [if_pos c1] at q
    refine d5 hx.all.1.1 ?_
    exact (q _ ((Out.refl _ _ _).I (by omega) (by omega)) ⟨L, M, hx.tr (t := 2) (by decide) (by decide)⟩)
  rw [if_neg c1] at q
  refine ax_brc (fun c2 => ?_) (fun c2 => ?_)
  · rw [if_pos c2] at q
    obtain ⟨j, hj, rfl⟩ := nI_of (x := x) (by rw [q0]; exact c1)
    rw [nI_leI hj (by omega)] at c2
    rw [cl_nI hj] at q
    have hx0 := hx.l0
    have ht : TpC (sI μ 64 8 (nI 0)) (tp st) j := ⟨⟨hx.1.1.2.2.2.2.2.2.2.2.2.1, hx.1.1.2.2.2.2.2.2.2.2.2.2⟩, hx0.1.2.2.1, by omega, fun i hi => by rw [iI_n (by omega)]; exact hx.2.2.2.2.1 i (by omega)⟩
    refine d212 hG ht (M := M) (by omega) hx0.1.2.2.2.2.1 (fun μ4 v f4 h4 => ?_)
    have hx4 : XW μ4 (tp st, 0, st.2.2) L M := (hx0.r2 (x := some M)).fq f4 (fun b q => q)
    have o4 : Out 64 332 μ μ4 := (((Out.refl 64 332 μ).I (by omega) (by omega)).R (by omega) (by omega)).FQ f4 (fun b q => by have q : PM M b := q; omega)
    have hr4 := hx4.1.2.2.1.all
    cases e : prs (tp st) j with
    | inl e0 =>
      rw [e] at q h4
      obtain ⟨rfl, h4⟩ := h4
      try simp (disch := omega) only [hx4.all, hr4, wr_s, in_nI, clN, ti_z, ti_l, true_and, and_true, kI, zI, rI, kL, zL, rL, kR, zR, nnI, nnL, nnR, iL, iR, lI, lR, exi, exl, exv, eq_self, nI_add, nI_mul, nI_sub, nI_ltI, nI_leI, nI_eq, q0, q1, q2, q3, q4, q5, q6, q10, q100, br_Tr, br_Fa, iI_s, iI_n, bI_q0, bI_q1, or_true, true_or, not_true_eq_false, not_false_eq_true, nI_l, ge64, Nat.lt_irrefl, Nat.add_sub_cancel, Nat.not_lt_zero, lN_0, lN_1e4, lN_1e6, lN_1e3, lN_add, lN_mul, lN_ltI, lN_leI, lN_eqI, lN_i, lcE, lcLe, lcLt, lN_div, q7, q12, q20, q99, q200, q999, q1e4, if_true, if_false, Nat.le_refl, q8, q11, q16, q18, q32, q44, q48, q57, q59, q97, q122, q900]
      refine d33 hr4.1 h4 ?_
      try simp (disch := omega) only [hx4.all, hr4, wr_s, in_nI, clN, ti_z, ti_l, true_and, and_true, kI, zI, rI, kL, zL, rL, kR, zR, nnI, nnL, nnR, iL, iR, lI, lR, exi, exl, exv, eq_self, nI_add, nI_mul, nI_sub, nI_ltI, nI_leI, nI_eq, q0, q1, q2, q3, q4, q5, q6, q10, q100, br_Tr, br_Fa, iI_s, iI_n, bI_q0, bI_q1, or_true, true_or, not_true_eq_false, not_false_eq_true, nI_l, ge64, Nat.lt_irrefl, Nat.add_sub_cancel, Nat.not_lt_zero, lN_0, lN_1e4, lN_1e6, lN_1e3, lN_add, lN_mul, lN_ltI, lN_leI, lN_eqI, lN_i, lcE, lcLe, lcLt, lN_div, q7, q12, q20, q99, q200, q999, q1e4, if_true, if_false, Nat.le_refl, q8, q11, q16, q18, q32, q44, q48, q57, q59, q97, q122, q900]
      refine d34 (e := e0) hr4.1 (by try simp (disch := omega) only [wr_s, in_nI, clN, ti_z, ti_l, true_and, and_true, kI, zI, rI, kL, zL, rL, kR, zR, nnI, nnL, nnR, iL, iR, lI, lR, exi, exl, exv, eq_self, nI_add, nI_mul, nI_sub, nI_ltI, nI_leI, nI_eq, q0, q1, q2, q3, q4, q5, q6, q10, q100, br_Tr, br_Fa, iI_s, iI_n, bI_q0, bI_q1, or_true, true_or, not_true_eq_false, not_false_eq_true, nI_l, ge64, Nat.lt_irrefl, Nat.add_sub_cancel, Nat.not_lt_zero, lN_0, lN_1e4, lN_1e6, lN_1e3, lN_add, lN_mul, lN_ltI, lN_leI, lN_eqI, lN_i, lcE, lcLe, lcLt, lN_div, q7, q12, q20, q99, q200, q999, q1e4, if_true, if_false, Nat.le_refl, q8, q11, q16, q18, q32, q44, q48, q57, q59, q97, q122, q900]; exact h4.2) ?_
      try simp (disch := omega) only [hx4.all, hr4, wr_s, in_nI, clN, ti_z, ti_l, true_and, and_true, kI, zI, rI, kL, zL, rL, kR, zR, nnI, nnL, nnR, iL, iR, lI, lR, exi, exl, exv, eq_self, nI_add, nI_mul, nI_sub, nI_ltI, nI_leI, nI_eq, q0, q1, q2, q3, q4, q5, q6, q10, q100, br_Tr, br_Fa, iI_s, iI_n, bI_q0, bI_q1, or_true, true_or, not_true_eq_false, not_false_eq_true, nI_l, ge64, Nat.lt_irrefl, Nat.add_sub_cancel, Nat.not_lt_zero, lN_0, lN_1e4, lN_1e6, lN_1e3, lN_add, lN_mul, lN_ltI, lN_leI, lN_eqI, lN_i, lcE, lcLe, lcLt, lN_div, q7, q12, q20, q99, q200, q999, q1e4, if_true, if_false, Nat.le_refl, q8, q11, q16, q18, q32, q44, q48, q57, q59, q97, q122, q900]
      refine d5 hx4.all.1.1 ?_
      exact q _ (((o4.I (by omega) (by omega)).I (by omega) (by omega)).I (by omega) (by omega)) ⟨L, M, hx4.fl⟩
    | inr s =>
      rw [e] at q h4
      obtain ⟨rfl, h4⟩ := h4
      have ha := prs_ok e
      have hrp := h4.2.2.2.2.1
      simp only at q
      generalize pL s = a at q ha hrp
      have hbd := ha.bd
      try simp (disch := omega) only [hx4.all, hr4, rR_s, rR_n, show ¬ (1 = 0) by omega, wr_s, in_nI, clN, ti_z, ti_l, true_and, and_true, kI, zI, rI, kL, zL, rL, kR, zR, nnI, nnL, nnR, iL, iR, lI, lR, exi, exl, exv, eq_self, nI_add, nI_mul, nI_sub, nI_ltI, nI_leI, nI_eq, q0, q1, q2, q3, q4, q5, q6, q10, q100, br_Tr, br_Fa, iI_s, iI_n, bI_q0, bI_q1, or_true, true_or, not_true_eq_false, not_false_eq_true, nI_l, ge64, Nat.lt_irrefl, Nat.add_sub_cancel, Nat.not_lt_zero, lN_0, lN_1e4, lN_1e6, lN_1e3, lN_add, lN_mul, lN_ltI, lN_leI, lN_eqI, lN_i, lcE, lcLe, lcLt, lN_div, q7, q12, q20, q99, q200, q999, q1e4, if_true, if_false, Nat.le_refl, q8, q11, q16, q18, q32, q44, q48, q57, q59, q97, q122, q900]
      obtain ⟨h1, h2, h3, h5, h6, h7, h8, h9, h10⟩ := hx4.1
      have f0 : Fr (fun b k => b = 64 ∧ k = 10) μ4 (sI μ4 64 10 (nI 0)) := (Fr.refl _ _).put ⟨rfl, rfl⟩
      have hrp1 : RepL (sR (sR (sI μ4 64 10 (nI 0)) 64 1 (some M)) 64 2 (some L)) M a := by
        have k := hrp.fr ha f0 (fun b k h1 h2 q => by omega)
        exact ⟨(k.1.sR (by omega)).sR (by omega), k.2⟩
      refine d199 ha (((h7.fr f0).oR (by omega)).oR (by omega)) hrp1 (((h8.fr f0).sR (Or.inl (by omega))).sR (Or.inl (by omega))) (by omega) (by omega) (by omega) (fun μ5 f5 hT => ?_)
      have hS : XS (sR (sR (sR (sR (sI μ4 64 10 (nI 0)) 64 1 (some M)) 64 2 (some L)) 237 4 (some M)) 156 8 (some M)) M L := by
        refine ⟨?_, by omega, ((((h3.fq (FQ.ofFr (P' := fun b => b = 64) f0 (fun b k q => q.1))).sR (by omega)).sR (by omega)).sR (by omega)).sR (by omega), ((((h6.fr f0).sR (by omega)).sR (by omega)).sR (by omega)).sR (by omega), ((((h5.fr f0).sR (by omega)).sR (by omega)).sR (by omega)).sR (by omega), ((((h7.fr f0).oR (by omega)).oR (by omega)).oR (by omega)).sR8 (by omega), ((((h8.fr f0).sR (Or.inl (by omega))).sR (Or.inl (by omega))).sR (Or.inr ⟨rfl, rfl⟩)).sR (Or.inl (by omega)), ((((h9.fr f0).oR (by omega)).oR (by omega)).oR (by omega)).oR (by omega), ((((h10.fr f0).sR (Or.inl (by omega))).sR (Or.inl (by omega))).sR (Or.inl (by omega))).sR (Or.inl (by omega))⟩
        obtain ⟨t1, t2, t3, t4, t5, t6, t7, t8, t9, t10⟩ := h1
        refine ⟨t1, ?_, ?_, ?_, ?_, ?_, ?_, ?_, ?_, t10⟩
        · rw [rR_n (by omega), rR_n (by omega), rR_n (by omega), rR_n (by omega)]; exact t2
        · rw [rR_n (by omega), rR_n (by omega), rR_n (by omega)]; exact rR_s _ _ _ _
        · rw [rR_n (by omega), rR_n (by omega)]; exact rR_s _ _ _ _
        · rw [rR_n (by omega), rR_n (by omega), rR_n (by omega), rR_n (by omega)]; exact t5
        · rw [rR_n (by omega), rR_n (by omega), rR_n (by omega), rR_n (by omega)]; exact t6
        · rw [rR_n (by omega), rR_n (by omega), rR_n (by omega), rR_n (by omega)]; exact t7
        · rw [rR_n (by omega), rR_n (by omega), rR_n (by omega), rR_n (by omega)]; exact t8
        · rw [rR_n (by omega), rR_n (by omega), rR_n (by omega), rR_n (by omega)]; exact t9
      have f9 : Fr (fun b k => (b = 64 ∧ k = 9) ∨ PC 156 b k ∨ PN 237 b k) (sR (sR (sR (sR (sI μ4 64 10 (nI 0)) 64 1 (some M)) 64 2 (some L)) 237 4 (some M)) 156 8 (some M)) (sI μ5 64 9 (nI 0)) := (f5.mono (fun b k q => Or.inr q)).put (Or.inl ⟨rfl, rfl⟩)
      have hS9 := hS.fr f9
      have hT9 : TN (sI μ5 64 9 (nI 0)) 237 156 M a := hT.t9 (by omega)
      have hx9 : XW (sI μ5 64 9 (nI 0)) (tp st, 0, 0, 0, pla st, some a) M L := by
        refine ⟨hS9, ⟨?_, iI_s _ _ _ _, ?_⟩, ⟨Nat.zero_le _, Nat.zero_le _⟩, (fun e => by cases e), fun i hi => absurd hi (Nat.not_lt_zero _), fun k hk => ⟨hT9.1.1.1.1.1.2.2.2.1.2.1 k hk, cnt20 ha k hk⟩, fun a' ha' => by cases ha'; exact hT9⟩
        · rw [f9.I (by unfold PC PN; omega)]
          show gI (sI μ4 64 10 (nI 0)) 64 8 = nI 0
          rw [iI_n (by omega)]; exact hx4.2.1.1
        · rw [f9.I (by unfold PC PN; omega)]
          show gI (sI μ4 64 10 (nI 0)) 64 10 = nI 0
          exact iI_s _ _ _ _
      have hx9a := hx9.all
      have h5k : mK μ5 64 = 10 := hx9a.1.1
      have h5r : gR μ5 64 1 = some M := hx9a.1.2.2.1
      have h5m : mK μ5 M = 3 := hx9a.2.1.2.2.2.2.1
      have h5n : gI μ5 M 6 = nI (nTh a) := by
        have := hx9a.2.2.2.2.2.1
        rw [iI_n (by omega)] at this
        exact this
      try simp (disch := omega) only [h5k, h5r, h5m, h5n, wr_s, in_nI, clN, ti_z, ti_l, true_and, and_true, kI, zI, rI, kL, zL, rL, kR, zR, nnI, nnL, nnR, iL, iR, lI, lR, exi, exl, exv, eq_self, nI_add, nI_mul, nI_sub, nI_ltI, nI_leI, nI_eq, q0, q1, q2, q3, q4, q5, q6, q10, q100, br_Tr, br_Fa, iI_s, iI_n, bI_q0, bI_q1, or_true, true_or, not_true_eq_false, not_false_eq_true, nI_l, ge64, Nat.lt_irrefl, Nat.add_sub_cancel, Nat.not_lt_zero, lN_0, lN_1e4, lN_1e6, lN_1e3, lN_add, lN_mul, lN_ltI, lN_leI, lN_eqI, lN_i, lcE, lcLe, lcLt, lN_div, q7, q12, q20, q99, q200, q999, q1e4, if_true, if_false, Nat.le_refl, q8, q11, q16, q18, q32, q44, q48, q57, q59, q97, q122, q900]
      have o5 : Out 64 332 μ (sR (sR (sR (sR (sI μ4 64 10 (nI 0)) 64 1 (some M)) 64 2 (some L)) 237 4 (some M)) 156 8 (some M)) := ((((o4.I (by omega) (by omega)).R (by omega) (by omega)).R (by omega) (by omega)).R (by omega) (by omega)).R (by omega) (by omega)
      exact q (sI μ5 64 9 (nI 0)) ((o5.F f5 (fun b k q => by unfold PC PN at q; omega)).I (by omega) (by omega)) ⟨M, L, hx9⟩
  · rw [if_neg c2] at q
    refine d5 hx.all.1.1 ?_
    exact (q _ ((Out.refl _ _ _).I (by omega) (by omega)) ⟨L, M, hx.tr (t := 2) (by decide) (by decide)⟩)
end T9
/-! four bytes of an int -/
def lo8 (y : Int32) : Nat := y.toBitVec.toNat % 256
theorem lo8_lt (y : Int32) : lo8 y < 256 := Nat.mod_lt _ (by decide)
theorem lo8_e (y : Int32) : y &&& 255 = nI (lo8 y) := by
  apply Int32.toBitVec_inj.mp
  rw [Int32.toBitVec_and]
  apply BitVec.eq_of_toNat_eq
  have e1 : (nI (lo8 y)).toBitVec = BitVec.ofNat 32 (lo8 y) := rfl
  have e2 : (255 : Int32).toBitVec = 255#32 := rfl
  rw [e1, e2, BitVec.toNat_and, BitVec.toNat_ofNat, BitVec.toNat_ofNat]
  have h := lo8_lt y
  rw [Nat.mod_eq_of_lt (show lo8 y < 2 ^ 32 by omega), show 255 % 2 ^ 32 = 2 ^ 8 - 1 from rfl, Nat.and_two_pow_sub_one_eq_mod]
  rfl
def s4 (j : Nat) : Int32 := if j = 0 then 24 else if j = 1 then 16 else if j = 2 then 8 else 0
def by4 (x : Int32) (j : Nat) : Nat := lo8 ((Int32.toUInt32 x >>> (Int32.toUInt32 (s4 j) &&& Int32.toUInt32 31)).toInt32)
def fdA (x1 x2 x3 x4 x5 : Int32) (k : Nat) : Int32 := if k < 4 then x1 else if k < 8 then x2 else if k < 12 then x3 else if k < 16 then x4 else x5
def fdT (st : St) (x1 x2 x3 x4 x5 : Int32) : Nat → Nat := fun i => if i < ln st then tp st i else by4 (fdA x1 x2 x3 x4 x5 (i - ln st)) ((i - ln st) % 4)
def aFeed (st : St) (x1 x2 x3 x4 x5 : Int32) : Int32 × St := if ln st + 20 ≤ 900 then (nI (ln st + 20), (fdT st x1 x2 x3 x4 x5, ln st + 20, st.2.2)) else (-nI 1, st)
section T10
variable {l : Launch} {G : ax_G} {μ : ax_M} {st : St}
theorem d4 {x : Int32} {t : Nat} {K : ax_M → Prop} (hk : mK μ 64 = 10) (hr : gR μ 64 0 = some 65) (hk2 : mK μ 65 = 21) (hz : mZ μ 65 = 900) (h8 : gI μ 64 8 = nI t) (ht : t + 4 ≤ 900) (q : ∀ μ', Fr (fun b k => b = 65 ∨ (b = 64 ∧ k = 8)) μ μ' → gI μ' 64 8 = nI (t + 4) → (∀ i, i < t → gI μ' 65 i = gI μ 65 i) → (∀ j, j < 4 → gI μ' 65 (t + j) = nI (by4 x j)) → K μ') : ax_CV l G 4 [ax_r (some 64), ax_i x] μ K := by
  have sh : ∀ j, j < 4 → (if j = 3 then (-8 : Int32) else s4 (j + 1)) = s4 j + (-8) := by decide
  refine ax_Ct.of (by decide) (Nat.le_of_ble_eq_true rfl) (sg4_0 l G _ 64 _ _ ?_)
  refine up_to (P := fun j => ∀ μj, Fr (fun b k => b = 65 ∨ (b = 64 ∧ k = 8)) μ μj → gI μj 64 8 = nI (t + j) → (∀ i, i < t → gI μj 65 i = gI μ 65 i) → (∀ i, i < j → gI μj 65 (t + i) = nI (by4 x i)) → (ax_Rw l G ax_h4 (ax_E G ax_h4 (fun x μ' => x = none ∧ K μ')) 3 [(0, ax_r (some 64)), (1, ax_i x), (2, ax_i (if j = 4 then -8 else s4 j))] [] 0 0 μj)) 4 (fun μj f g8 h1 h2 => ?_) (fun j hj ih μj f g8 h1 h2 => ?_) 0 (by decide) μ (Fr.refl _ _) h8 (fun i _ => rfl) (fun i hi => by omega)
  · refine sg4_3 l G _ 64 _ _ _ ?_
    refine ax_brt (by decide) ?_
    exact ⟨rfl, q μj f g8 h1 h2⟩
  · have k1 : mK μj 64 = 10 := by rw [f.K]; exact hk
    have k2 : gR μj 64 0 = some 65 := by rw [f.R]; exact hr
    have k3 : mK μj 65 = 21 := by rw [f.K]; exact hk2
    have k4 : mZ μj 65 = 900 := by rw [f.Z]; exact hz
    have hs : ¬ s4 j < 0 := by
      have : ∀ j, j < 4 → ¬ s4 j < 0 := by decide
      exact this j hj
    rw [if_neg (show ¬ j = 4 by omega)]
    refine sg4_3 l G _ 64 _ _ _ ?_
    refine ax_brf hs ?_
    rw [← sh j hj]
    try simp (disch := omega) only [k1, k2, k3, k4, g8, wr_s, in_nI, clN, ti_z, ti_l, true_and, and_true, kI, zI, rI, kL, zL, rL, kR, zR, nnI, nnL, nnR, iL, iR, lI, lR, exi, exl, exv, eq_self, nI_add, nI_mul, nI_sub, nI_ltI, nI_leI, nI_eq, q1, q2, q3, q4, q5, q6, q10, q100, br_Tr, br_Fa, iI_s, iI_n, bI_q0, bI_q1, or_true, true_or, not_true_eq_false, not_false_eq_true, nI_l, ge64, Nat.lt_irrefl, Nat.add_sub_cancel, Nat.not_lt_zero, lN_0, lN_1e4, lN_1e6, lN_1e3, lN_add, lN_mul, lN_ltI, lN_leI, lN_eqI, lN_i, lcE, lcLe, lcLt, lN_div, q7, q12, q20, q99, q200, q999, q1e4, if_true, if_false, Nat.le_refl, q11, q18, q32, q44, q48, q57, q59, q97, q122, q900]
    rw [lo8_e]
    have ih := ih (sI (sI μj 65 (t + j) (nI (by4 x j))) 64 8 (nI (t + j + 1))) ((f.put (Or.inl rfl)).put (Or.inr ⟨rfl, rfl⟩)) (iI_s _ _ _ _) (fun i hi => by rw [iI_n (by omega), iI_n (by omega)]; exact h1 i hi) (lt_s (fun i hi => by rw [iI_n (by omega), iI_n (by omega)]; exact h2 i hi) (by rw [iI_n (by omega)]; exact iI_s _ _ _ _))
    by_cases e : j = 3
    · subst e; exact ih
    · rw [if_neg e]
      rw [if_neg (by omega)] at ih
      exact ih
theorem p82 {x1 x2 x3 x4 x5 : Int32} {K : Int32 → ax_M → Prop} (hx : X μ st) (q : ∀ μ', Out 64 332 μ μ' → X μ' (aFeed st x1 x2 x3 x4 x5).2 → K (aFeed st x1 x2 x3 x4 x5).1 μ') : ax_CI l G 82 [ax_r (some 64), ax_i x1, ax_i x2, ax_i x3, ax_i x4, ax_i x5] μ K := by
  obtain ⟨L, M, hx⟩ := hx
  have hb := hx.bd
  have ha := hx.all.1
  unfold aFeed at q
  refine ax_Ct.of (by decide) (Nat.le_of_ble_eq_true rfl) (sg82_0 l G _ 64 _ _ _ _ _ _ ?_)
  try simp (disch := omega) only [hx.all, wr_s, in_nI, clN, ti_z, ti_l, true_and, and_true, kI, zI, rI, kL, zL, rL, kR, zR, nnI, nnL, nnR, iL, iR, lI, lR, exi, exl, exv, eq_self, nI_add, nI_mul, nI_sub, nI_ltI, nI_leI, nI_eq, q0, q1, q2, q3, q4, q5, q6, q10, q100, br_Tr, br_Fa, iI_s, iI_n, bI_q0, bI_q1, or_true, true_or, not_true_eq_false, not_false_eq_true, nI_l, ge64, Nat.lt_irrefl, Nat.add_sub_cancel, Nat.not_lt_zero, lN_0, lN_1e4, lN_1e6, lN_1e3, lN_add, lN_mul, lN_ltI, lN_leI, lN_eqI, lN_i, lcE, lcLe, lcLt, lN_div, q7, q12, q20, q99, q200, q999, q1e4, if_true, if_false, Nat.le_refl, q8, q11, q16, q18, q32, q44, q48, q57, q59, q97, q122, q900]
  refine ax_brc (fun c => ?_) (fun c => ?_)
  · rw [if_pos c] at q
    refine d4 ha.1 ha.2.1 ha.2.2.2.2.2.2.2.2.2.1 ha.2.2.2.2.2.2.2.2.2.2 hx.2.1.1 (by omega) (fun μ1 f1 g1 i1 b1 => ?_)
    try simp (disch := omega) only [f1.K, hx.all, wr_s, in_nI, clN, ti_z, ti_l, true_and, and_true, kI, zI, rI, kL, zL, rL, kR, zR, nnI, nnL, nnR, iL, iR, lI, lR, exi, exl, exv, eq_self, nI_add, nI_mul, nI_sub, nI_ltI, nI_leI, nI_eq, q0, q1, q2, q3, q4, q5, q6, q10, q100, br_Tr, br_Fa, iI_s, iI_n, bI_q0, bI_q1, or_true, true_or, not_true_eq_false, not_false_eq_true, nI_l, ge64, Nat.lt_irrefl, Nat.add_sub_cancel, Nat.not_lt_zero, lN_0, lN_1e4, lN_1e6, lN_1e3, lN_add, lN_mul, lN_ltI, lN_leI, lN_eqI, lN_i, lcE, lcLe, lcLt, lN_div, q7, q12, q20, q99, q200, q999, q1e4, if_true, if_false, Nat.le_refl, q8, q11, q16, q18, q32, q44, q48, q57, q59, q97, q122, q900]
    refine d4 (by rw [f1.K]; exact ha.1) (by rw [f1.R]; exact ha.2.1) (by rw [f1.K]; exact ha.2.2.2.2.2.2.2.2.2.1) (by rw [f1.Z]; exact ha.2.2.2.2.2.2.2.2.2.2) g1 (by omega) (fun μ2 f2 g2 i2 b2 => ?_)
    have F2 := f1.trans f2
    try simp (disch := omega) only [F2.K, hx.all, wr_s, in_nI, clN, ti_z, ti_l, true_and, and_true, kI, zI, rI, kL, zL, rL, kR, zR, nnI, nnL, nnR, iL, iR, lI, lR, exi, exl, exv, eq_self, nI_add, nI_mul, nI_sub, nI_ltI, nI_leI, nI_eq, q0, q1, q2, q3, q4, q5, q6, q10, q100, br_Tr, br_Fa, iI_s, iI_n, bI_q0, bI_q1, or_true, true_or, not_true_eq_false, not_false_eq_true, nI_l, ge64, Nat.lt_irrefl, Nat.add_sub_cancel, Nat.not_lt_zero, lN_0, lN_1e4, lN_1e6, lN_1e3, lN_add, lN_mul, lN_ltI, lN_leI, lN_eqI, lN_i, lcE, lcLe, lcLt, lN_div, q7, q12, q20, q99, q200, q999, q1e4, if_true, if_false, Nat.le_refl, q8, q11, q16, q18, q32, q44, q48, q57, q59, q97, q122, q900]
    refine d4 (by rw [F2.K]; exact ha.1) (by rw [F2.R]; exact ha.2.1) (by rw [F2.K]; exact ha.2.2.2.2.2.2.2.2.2.1) (by rw [F2.Z]; exact ha.2.2.2.2.2.2.2.2.2.2) g2 (by omega) (fun μ3 f3 g3 i3 b3 => ?_)
    have F3 := F2.trans f3
    try simp (disch := omega) only [F3.K, hx.all, wr_s, in_nI, clN, ti_z, ti_l, true_and, and_true, kI, zI, rI, kL, zL, rL, kR, zR, nnI, nnL, nnR, iL, iR, lI, lR, exi, exl, exv, eq_self, nI_add, nI_mul, nI_sub, nI_ltI, nI_leI, nI_eq, q0, q1, q2, q3, q4, q5, q6, q10, q100, br_Tr, br_Fa, iI_s, iI_n, bI_q0, bI_q1, or_true, true_or, not_true_eq_false, not_false_eq_true, nI_l, ge64, Nat.lt_irrefl, Nat.add_sub_cancel, Nat.not_lt_zero, lN_0, lN_1e4, lN_1e6, lN_1e3, lN_add, lN_mul, lN_ltI, lN_leI, lN_eqI, lN_i, lcE, lcLe, lcLt, lN_div, q7, q12, q20, q99, q200, q999, q1e4, if_true, if_false, Nat.le_refl, q8, q11, q16, q18, q32, q44, q48, q57, q59, q97, q122, q900]
    refine d4 (by rw [F3.K]; exact ha.1) (by rw [F3.R]; exact ha.2.1) (by rw [F3.K]; exact ha.2.2.2.2.2.2.2.2.2.1) (by rw [F3.Z]; exact ha.2.2.2.2.2.2.2.2.2.2) g3 (by omega) (fun μ4 f4 g4 i4 b4 => ?_)
    have F4 := F3.trans f4
    try simp (disch := omega) only [F4.K, hx.all, wr_s, in_nI, clN, ti_z, ti_l, true_and, and_true, kI, zI, rI, kL, zL, rL, kR, zR, nnI, nnL, nnR, iL, iR, lI, lR, exi, exl, exv, eq_self, nI_add, nI_mul, nI_sub, nI_ltI, nI_leI, nI_eq, q0, q1, q2, q3, q4, q5, q6, q10, q100, br_Tr, br_Fa, iI_s, iI_n, bI_q0, bI_q1, or_true, true_or, not_true_eq_false, not_false_eq_true, nI_l, ge64, Nat.lt_irrefl, Nat.add_sub_cancel, Nat.not_lt_zero, lN_0, lN_1e4, lN_1e6, lN_1e3, lN_add, lN_mul, lN_ltI, lN_leI, lN_eqI, lN_i, lcE, lcLe, lcLt, lN_div, q7, q12, q20, q99, q200, q999, q1e4, if_true, if_false, Nat.le_refl, q8, q11, q16, q18, q32, q44, q48, q57, q59, q97, q122, q900]
    refine d4 (by rw [F4.K]; exact ha.1) (by rw [F4.R]; exact ha.2.1) (by rw [F4.K]; exact ha.2.2.2.2.2.2.2.2.2.1) (by rw [F4.Z]; exact ha.2.2.2.2.2.2.2.2.2.2) g4 (by omega) (fun μ5 f5 g5 i5 b5 => ?_)
    have F5 := F4.trans f5
    have e20 : ln st + 4 + 4 + 4 + 4 + 4 = ln st + 20 := by omega
    rw [e20] at g5
    try simp (disch := omega) only [F5.K, hx.all, g5, wr_s, in_nI, clN, ti_z, ti_l, true_and, and_true, kI, zI, rI, kL, zL, rL, kR, zR, nnI, nnL, nnR, iL, iR, lI, lR, exi, exl, exv, eq_self, nI_add, nI_mul, nI_sub, nI_ltI, nI_leI, nI_eq, q0, q1, q2, q3, q4, q5, q6, q10, q100, br_Tr, br_Fa, iI_s, iI_n, bI_q0, bI_q1, or_true, true_or, not_true_eq_false, not_false_eq_true, nI_l, ge64, Nat.lt_irrefl, Nat.add_sub_cancel, Nat.not_lt_zero, lN_0, lN_1e4, lN_1e6, lN_1e3, lN_add, lN_mul, lN_ltI, lN_leI, lN_eqI, lN_i, lcE, lcLe, lcLt, lN_div, q7, q12, q20, q99, q200, q999, q1e4, if_true, if_false, Nat.le_refl, q8, q11, q16, q18, q32, q44, q48, q57, q59, q97, q122, q900]
    have tpe : ∀ i, i < ln st + 20 → gI μ5 65 i = nI (fdT st x1 x2 x3 x4 x5 i) ∧ fdT st x1 x2 x3 x4 x5 i < 256 := by
      intro i hi
      unfold fdT
      by_cases c0 : i < ln st
      · rw [if_pos c0, i5 i (by omega), i4 i (by omega), i3 i (by omega), i2 i (by omega), i1 i (by omega)]
        exact hx.2.2.2.2.1 i c0
      · rw [if_neg c0]
        refine ⟨?_, lo8_lt _⟩
        obtain ⟨k, rfl⟩ : ∃ k, i = ln st + k := ⟨i - ln st, by omega⟩
        rw [show ln st + k - ln st = k by omega]
        unfold fdA
        by_cases k1 : k < 4
        · rw [if_pos k1, i5 _ (by omega), i4 _ (by omega), i3 _ (by omega), i2 _ (by omega), b1 k k1, Nat.mod_eq_of_lt k1]
        rw [if_neg k1]
        by_cases k2 : k < 8
        · rw [if_pos k2, i5 _ (by omega), i4 _ (by omega), i3 _ (by omega), show ln st + k = ln st + 4 + (k - 4) by omega, b2 (k - 4) (by omega), show k - 4 = k % 4 by omega]
        rw [if_neg k2]
        by_cases k3 : k < 12
        · rw [if_pos k3, i5 _ (by omega), i4 _ (by omega), show ln st + k = ln st + 4 + 4 + (k - 8) by omega, b3 (k - 8) (by omega), show k - 8 = k % 4 by omega]
        rw [if_neg k3]
        by_cases k4 : k < 16
        · rw [if_pos k4, i5 _ (by omega), show ln st + k = ln st + 4 + 4 + 4 + (k - 12) by omega, b4 (k - 12) (by omega), show k - 12 = k % 4 by omega]
        · rw [if_neg k4, show ln st + k = ln st + 4 + 4 + 4 + 4 + (k - 16) by omega, b5 (k - 16) (by omega), show k - 16 = k % 4 by omega]
    refine q μ5 ((Out.refl 64 332 μ).F F5 (fun b k q => by omega)) ⟨L, M, hx.1.fr F5, ⟨g5, ?_, ?_⟩, ⟨c, hb.2.2.1⟩, fun e => ?_, tpe, fun k hk => ?_, fun a ha => (hx.2.2.2.2.2.2 a ha).fr F5 (fun b k q => by omega)⟩
    · rw [F5.I (by omega)]; exact hx.2.1.2.1
    · rw [F5.I (by omega)]; exact hx.2.1.2.2
    · rw [F5.I (by omega)]; exact hx.2.2.2.1 e
    · rw [F5.I (by omega)]; exact hx.2.2.2.2.2.1 k hk
  · rw [if_neg c] at q
    exact q μ (Out.refl _ _ _) ⟨L, M, hx⟩
end T10
