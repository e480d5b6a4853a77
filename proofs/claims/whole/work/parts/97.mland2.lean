/-! the model: land and feed -/
theorem MB.fk {P : Nat → Nat → Prop} {μ μ1 : ax_M} {N : Nat} {a : Ld} (h : MB μ N a) (f : FK P μ μ1) (hp : ∀ b k, P b k → b < 334 ∨ N + 18 ≤ b) : MB μ1 N a := by
  obtain ⟨n, kz, i, lo, r⟩ := μ
  obtain ⟨n1, kz1, i1, lo1, r1⟩ := μ1
  obtain ⟨rfl, rfl, rfl, q⟩ : n1 = n ∧ kz1 = kz ∧ r1 = r ∧ _ := f
  have hb := h.bd
  have f' : Fr P (n1, kz1, i, lo, r1) (n1, kz1, i1, lo, r1) := ⟨rfl, rfl, rfl, rfl, fun b k hn => (q b k hn).1⟩
  have h' : MB (n1, kz1, i1, lo, r1) N a := by
    refine ⟨⟨⟨h.1.1.1, h.1.1.2.1.fr f', h.1.1.2.2.1, h.1.1.2.2.2.fr f' (fun b k h1 h2 q => by have := hp b k q; omega)⟩, fun t m ht hm => ?_⟩, fun x y m hh hg hm h0 => ?_⟩
    · rw [f'.I (fun q => by have := hp _ _ q; omega), f'.I (fun q => by have := hp _ _ q; omega), f'.I (fun q => by have := hp _ _ q; omega), f'.I (fun q => by have := hp _ _ q; omega)]
      exact h.1.2 t m ht hm
    · rw [f'.I (fun q => by have := hp _ _ q; omega), f'.I (fun q => by have := hp _ _ q; omega)]
      exact h.2 x y m hh hg hm h0
  exact h'
theorem isMo_r {μ : ax_M} {k : Nat} {x : Option Nat} (h : isMo μ) (hk : k = 3 ∨ k = 4) : isMo (sR μ 332 k x) := by
  unfold isMo at h ⊢
  simp (disch := omega) only [kR, zR, rR_n]
  exact h
theorem isML_r {μ : ax_M} {N k : Nat} {x : Option Nat} (h : isML μ N) : isML (sR μ 332 k x) N := by
  have hN := h.1
  unfold isML at h ⊢
  simp (disch := omega) only [kR, zR, rR_n]
  exact h
theorem MB_r4 {μ : ax_M} {N : Nat} {a : Ld} {x : Option Nat} (h : MB μ N a) : MB (sR μ 332 4 x) N a :=
  ⟨⟨⟨h.1.1.1, isMo_r h.1.1.2.1 (Or.inr rfl), by rw [rR_n (by omega)]; exact h.1.1.2.2.1, isML_r h.1.1.2.2.2.1, h.1.1.2.2.2.2⟩, h.1.2⟩, h.2⟩
theorem OutM.K {P : Nat → Nat → Prop} {μ μ1 μ2 : ax_M} (h : OutM μ μ1) (f : FK P μ1 μ2) (hp : ∀ b k, P b k → 332 ≤ b ∧ b ≠ 340) : OutM μ μ2 :=
  ⟨by have := h.1; have e := f.1; unfold mN at *; omega, fun b hb' => ⟨by rw [f.2.1]; exact (h.2 b hb').1, fun j => ⟨by rw [f.I (fun q => by have := hp b j q; omega)]; exact ((h.2 b hb').2 j).1, by rw [f.L (fun q => by have := hp b j q; omega)]; exact ((h.2 b hb').2 j).2.1, by rw [f.R]; exact ((h.2 b hb').2 j).2.2⟩⟩⟩
theorem OutM.A {N : Nat} {μ μ1 μ2 : ax_M} (h : OutM μ μ1) (a : Ag N μ1 μ2) (hN : 341 ≤ N) (hm : mN μ1 ≤ mN μ2) : OutM μ μ2 :=
  ⟨Nat.le_trans h.1 hm, fun b hb' => ⟨(a b (by omega)).1.trans (h.2 b hb').1, fun j => ⟨((a b (by omega)).2 j).1.trans ((h.2 b hb').2 j).1, ((a b (by omega)).2 j).2.1.trans ((h.2 b hb').2 j).2.1, ((a b (by omega)).2 j).2.2.trans ((h.2 b hb').2 j).2.2⟩⟩⟩
theorem q24 : (24 : Int32) = nI 24 := by decide +kernel
section V9
variable {l : Launch} {G : ax_G} {μ : ax_M} {st : St}
theorem m248 {x : Int32} {K : Int32 → ax_M → Prop} (hG : GC G) (hx : Mx μ st) (hxt : ∀ i, i < ln st → tp st i < 256) (q : ∀ μ', OutM μ μ' → Mx μ' (aLand st x).2 → K (aLand st x).1 μ') : ax_CI l G 248 [ax_r (some 332), ax_i x] μ K := by
  have hb := hx.bd
  unfold aLand at q
  refine ax_Ct.of (by decide) (Nat.le_of_ble_eq_true rfl) (sg248_0 l G _ 332 _ _ ?_)
  try simp (disch := omega) only [hx.1.all, hx.2.1, wr_s, in_nI, clN, ti_z, ti_l, true_and, and_true, kI, zI, rI, kL, zL, rL, kR, zR, nnI, nnL, nnR, iL, iR, lI, lR, exi, exl, exv, eq_self, nI_add, nI_mul, nI_sub, nI_ltI, nI_leI, nI_eq, q0, q1, q2, q3, q4, q5, q6, q10, q100, br_Tr, br_Fa, iI_s, iI_n, bI_q0, bI_q1, or_true, true_or, not_true_eq_false, not_false_eq_true, nI_l, ge64, Nat.lt_irrefl, Nat.add_sub_cancel, Nat.not_lt_zero, lN_0, lN_1e4, lN_1e6, lN_1e3, lN_add, lN_mul, lN_ltI, lN_leI, lN_eqI, lN_i, lcE, lcLe, lcLt, lN_div, q7, q12, q20, q99, q200, q999, q1e4, if_true, if_false, Nat.le_refl, q8, q11, q16, q18, q32, q44, q48, q57, q59, q97, q122, q900]
  refine ax_brc (fun c1 => ?_) (fun c1 => ?_)
  · rw [if_pos c1] at q
    exact d68 hx (by decide) q
  rw [if_neg c1] at q
  refine ax_brc (fun c2 => ?_) (fun c2 => ?_)
  rotate_left
  · rw [if_neg c2] at q
    exact d68 hx (by decide) q
  rw [if_pos c2] at q
  obtain ⟨j, hj, rfl⟩ := nI_of (x := x) (by rw [q0]; exact c1)
  rw [nI_leI hj (by omega)] at c2
  rw [cl_nI hj] at q
  generalize hNN : mN μ = N
  have hN : 341 ≤ N := by omega
  have fa : Fr (fun b k => b = 332 ∧ (k = 0 ∨ k = 6 ∨ k = 7 ∨ k = 8 ∨ k = 13)) μ (sI (sI (sI (sI (sI μ 332 0 (nI 0)) 332 7 (nI j)) 332 6 (nI 0)) 332 8 (nI 0)) 332 13 (nI 0)) := (((((Fr.refl _ _).put ⟨rfl, by omega⟩).put ⟨rfl, by omega⟩).put ⟨rfl, by omega⟩).put ⟨rfl, by omega⟩).put ⟨rfl, by omega⟩
  have a7 : gI (sI (sI (sI (sI (sI μ 332 0 (nI 0)) 332 7 (nI j)) 332 6 (nI 0)) 332 8 (nI 0)) 332 13 (nI 0)) 332 7 = nI j := by try simp (disch := omega) only [wr_s, in_nI, clN, ti_z, ti_l, true_and, and_true, kI, zI, rI, kL, zL, rL, kR, zR, nnI, nnL, nnR, iL, iR, lI, lR, exi, exl, exv, eq_self, nI_add, nI_mul, nI_sub, nI_ltI, nI_leI, nI_eq, q0, q1, q2, q3, q4, q5, q6, q10, q100, br_Tr, br_Fa, iI_s, iI_n, bI_q0, bI_q1, or_true, true_or, not_true_eq_false, not_false_eq_true, nI_l, ge64, Nat.lt_irrefl, Nat.add_sub_cancel, Nat.not_lt_zero, lN_0, lN_1e4, lN_1e6, lN_1e3, lN_add, lN_mul, lN_ltI, lN_leI, lN_eqI, lN_i, lcE, lcLe, lcLt, lN_div, q7, q12, q20, q99, q200, q999, q1e4, if_true, if_false, Nat.le_refl, q8, q11, q16, q18, q32, q44, q48, q57, q59, q97, q122, q900]
  have a6 : gI (sI (sI (sI (sI (sI μ 332 0 (nI 0)) 332 7 (nI j)) 332 6 (nI 0)) 332 8 (nI 0)) 332 13 (nI 0)) 332 6 = nI 0 := by try simp (disch := omega) only [wr_s, in_nI, clN, ti_z, ti_l, true_and, and_true, kI, zI, rI, kL, zL, rL, kR, zR, nnI, nnL, nnR, iL, iR, lI, lR, exi, exl, exv, eq_self, nI_add, nI_mul, nI_sub, nI_ltI, nI_leI, nI_eq, q0, q1, q2, q3, q4, q5, q6, q10, q100, br_Tr, br_Fa, iI_s, iI_n, bI_q0, bI_q1, or_true, true_or, not_true_eq_false, not_false_eq_true, nI_l, ge64, Nat.lt_irrefl, Nat.add_sub_cancel, Nat.not_lt_zero, lN_0, lN_1e4, lN_1e6, lN_1e3, lN_add, lN_mul, lN_ltI, lN_leI, lN_eqI, lN_i, lcE, lcLe, lcLt, lN_div, q7, q12, q20, q99, q200, q999, q1e4, if_true, if_false, Nat.le_refl, q8, q11, q16, q18, q32, q44, q48, q57, q59, q97, q122, q900]
  have a8 : gI (sI (sI (sI (sI (sI μ 332 0 (nI 0)) 332 7 (nI j)) 332 6 (nI 0)) 332 8 (nI 0)) 332 13 (nI 0)) 332 8 = nI 0 := by try simp (disch := omega) only [wr_s, in_nI, clN, ti_z, ti_l, true_and, and_true, kI, zI, rI, kL, zL, rL, kR, zR, nnI, nnL, nnR, iL, iR, lI, lR, exi, exl, exv, eq_self, nI_add, nI_mul, nI_sub, nI_ltI, nI_leI, nI_eq, q0, q1, q2, q3, q4, q5, q6, q10, q100, br_Tr, br_Fa, iI_s, iI_n, bI_q0, bI_q1, or_true, true_or, not_true_eq_false, not_false_eq_true, nI_l, ge64, Nat.lt_irrefl, Nat.add_sub_cancel, Nat.not_lt_zero, lN_0, lN_1e4, lN_1e6, lN_1e3, lN_add, lN_mul, lN_ltI, lN_leI, lN_eqI, lN_i, lcE, lcLe, lcLt, lN_div, q7, q12, q20, q99, q200, q999, q1e4, if_true, if_false, Nat.le_refl, q8, q11, q16, q18, q32, q44, q48, q57, q59, q97, q122, q900]
  have a13 : gI (sI (sI (sI (sI (sI μ 332 0 (nI 0)) 332 7 (nI j)) 332 6 (nI 0)) 332 8 (nI 0)) 332 13 (nI 0)) 332 13 = nI 0 := by try simp (disch := omega) only [wr_s, in_nI, clN, ti_z, ti_l, true_and, and_true, kI, zI, rI, kL, zL, rL, kR, zR, nnI, nnL, nnR, iL, iR, lI, lR, exi, exl, exv, eq_self, nI_add, nI_mul, nI_sub, nI_ltI, nI_leI, nI_eq, q0, q1, q2, q3, q4, q5, q6, q10, q100, br_Tr, br_Fa, iI_s, iI_n, bI_q0, bI_q1, or_true, true_or, not_true_eq_false, not_false_eq_true, nI_l, ge64, Nat.lt_irrefl, Nat.add_sub_cancel, Nat.not_lt_zero, lN_0, lN_1e4, lN_1e6, lN_1e3, lN_add, lN_mul, lN_ltI, lN_leI, lN_eqI, lN_i, lcE, lcLe, lcLt, lN_div, q7, q12, q20, q99, q200, q999, q1e4, if_true, if_false, Nat.le_refl, q8, q11, q16, q18, q32, q44, q48, q57, q59, q97, q122, q900]
  generalize sI (sI (sI (sI (sI μ 332 0 (nI 0)) 332 7 (nI j)) 332 6 (nI 0)) 332 8 (nI 0)) 332 13 (nI 0) = μa at fa a7 a6 a8 a13 ⊢
  have hNa : mN μa = N := by have e := fa.1; unfold mN at *; omega
  have oa : OutM μ μa := (OutM.refl _).F fa (fun b k q => by omega)
  have hma := hx.1.fr fa
  have agb : Ag N μa (nC μa 11 0) := by rw [← hNa]; exact Ag.new μa 11 0
  have nbK : mK (nC μa 11 0) N = 11 := by rw [← hNa]; exact nCk _ _ _
  have nbN : mN (nC μa 11 0) = N + 1 := by rw [← hNa]; rfl
  have nbI : ∀ k, gI (nC μa 11 0) N k = nI 0 := fun k => by rw [← hNa, ax_gI_nC, if_pos rfl]; exact q0
  have ob := oa.A agb hN (by omega)
  generalize nC μa 11 0 = μb at agb nbK nbN nbI ob ⊢
  refine d75 nbN nbK hN (fun μc nc => ?_)
  have oc := ob.A nc.2.1 hN (by have := nc.1; omega)
  have agc : Ag N μa μc := fun b hb => ⟨(nc.2.1 b hb).1.trans (agb b hb).1, fun k => ⟨((nc.2.1 b hb).2 k).1.trans ((agb b hb).2 k).1, ((nc.2.1 b hb).2 k).2.1.trans ((agb b hb).2 k).2.1, ((nc.2.1 b hb).2 k).2.2.trans ((agb b hb).2 k).2.2⟩⟩
  have hmc := hma.ag agc hN
  have hlc := nc.ml hN
  have ic : ∀ k, gI μc N k = nI 0 := fun k => (nc.2.2.2.1 k).trans (nbI k)
  have iz : ∀ i, i < 17 → ∀ k, gI μc (N + 1 + i) k = nI 0 := fun i hi => (nc.2.2.2.2 i hi).2.2.2
  have oldM : ∀ a N0, N0 + 18 ≤ mN μ → MB μ N0 a → MB μc N0 a := fun a N0 h1 h2 => (h2.fr fa (fun b k q => by omega)).ag agc (by omega)
  try simp (disch := omega) only [hmc.all, wr_s, in_nI, clN, ti_z, ti_l, true_and, and_true, kI, zI, rI, kL, zL, rL, kR, zR, nnI, nnL, nnR, iL, iR, lI, lR, exi, exl, exv, eq_self, nI_add, nI_mul, nI_sub, nI_ltI, nI_leI, nI_eq, q0, q1, q2, q3, q4, q5, q6, q10, q100, br_Tr, br_Fa, iI_s, iI_n, bI_q0, bI_q1, or_true, true_or, not_true_eq_false, not_false_eq_true, nI_l, ge64, Nat.lt_irrefl, Nat.add_sub_cancel, Nat.not_lt_zero, lN_0, lN_1e4, lN_1e6, lN_1e3, lN_add, lN_mul, lN_ltI, lN_leI, lN_eqI, lN_i, lcE, lcLe, lcLt, lN_div, q7, q12, q20, q99, q200, q999, q1e4, if_true, if_false, Nat.le_refl, q8, q11, q16, q18, q32, q44, q48, q57, q59, q97, q122, q900]
  have od : OutM μ (sI (sR μc 332 4 (some N)) 332 9 (nI 0)) := (oc.R (by omega)).I (by omega)
  have hmd : isMo (sI (sR μc 332 4 (some N)) 332 9 (nI 0)) := (isMo_r hmc (Or.inr rfl)).fr ((Fr.refl (fun _ _ => True) _).put trivial)
  have d9 : gI (sI (sR μc 332 4 (some N)) 332 9 (nI 0)) 332 9 = nI 0 := iI_s _ _ _ _
  have di : ∀ b k, b < N → ¬ (b = 332 ∧ k = 9) → gI (sI (sR μc 332 4 (some N)) 332 9 (nI 0)) b k = gI μa b k := fun b k hb hn => by
    rw [iI_n (by omega), iR]; exact ((agc b hb).2 k).1
  have htd : MTp (sI (sR μc 332 4 (some N)) 332 9 (nI 0)) (tp st) j := by
    refine ⟨hmd, by rw [di _ _ (by omega) (by omega)]; exact a7, by omega, fun i hi => ⟨?_, ?_⟩⟩
    · rw [di _ _ (by omega) (by omega), fa.I (by omega)]; exact hx.2.2.2.1 i (by omega)
    · exact hxt i (by omega)
  have nd4 : gR (sI (sR μc 332 4 (some N)) 332 9 (nI 0)) 332 4 = some N := by rw [rI, rR_s]
  have nd3 : ∀ k, k ≠ 4 → gR (sI (sR μc 332 4 (some N)) 332 9 (nI 0)) 332 k = gR μ 332 k := fun k hk => by rw [rI, rR_n (by omega), ((agc 332 (by omega)).2 k).2.2, fa.R]
  have hld : isML (sI (sR μc 332 4 (some N)) 332 9 (nI 0)) N := (isML_r hlc).fr ((Fr.refl (fun _ _ => True) _).put trivial)
  have ind : ∀ k, gI (sI (sR μc 332 4 (some N)) 332 9 (nI 0)) N k = nI 0 := fun k => by rw [iI_n (by omega), iR]; exact ic k
  have izd : ∀ k, gI (sI (sR μc 332 4 (some N)) 332 9 (nI 0)) (N + 11) k = nI 0 := fun k => by rw [iI_n (by omega), iR, show N + 11 = N + 1 + 10 by omega]; exact iz 10 (by omega) k
  have oldD : ∀ a N0, N0 + 18 ≤ mN μ → MB μ N0 a → MB (sI (sR μc 332 4 (some N)) 332 9 (nI 0)) N0 a := fun a N0 h1 h2 => (MB_r4 (oldM a N0 h1 h2)).fr ((Fr.refl (fun b k => b = 332) _).put rfl) (fun b k q => by omega)
  have mnd : mN (sI (sR μc 332 4 (some N)) 332 9 (nI 0)) = N + 18 := nc.1
  have d8 : gI (sI (sR μc 332 4 (some N)) 332 9 (nI 0)) 332 8 = nI 0 := by rw [di _ _ (by omega) (by omega)]; exact a8
  have d13 : gI (sI (sR μc 332 4 (some N)) 332 9 (nI 0)) 332 13 = nI 0 := by rw [di _ _ (by omega) (by omega)]; exact a13
  have d6 : gI (sI (sR μc 332 4 (some N)) 332 9 (nI 0)) 332 6 = nI 0 := by rw [di _ _ (by omega) (by omega)]; exact a6
  have d1 : gI (sI (sR μc 332 4 (some N)) 332 9 (nI 0)) 332 1 = nI (tro st) := by rw [di _ _ (by omega) (by omega), fa.I (by omega)]; exact hx.2.1.1
  have d2 : gI (sI (sR μc 332 4 (some N)) 332 9 (nI 0)) 332 2 = aWhere st := by rw [di _ _ (by omega) (by omega), fa.I (by omega)]; exact hx.2.1.2.1
  generalize sI (sR μc 332 4 (some N)) 332 9 (nI 0) = μd at od hmd d9 htd nd4 nd3 hld ind izd oldD mnd d8 d13 d6 d1 d2 ⊢
  refine d109 (k := 0) htd (Nat.zero_le _) d8 d9 (by omega) (fun μe fe he => ?_)
  have hre : MR μe N j (tp st) (adv (tp st) j 0, ld0, nm0) := by
    refine ⟨htd.fk fe (fun b k q => Or.inl ⟨q.1, q.2.1⟩), ⟨by rw [fe.R]; exact nd4, by rw [fe.I (fun q => q.2.2 rfl)]; exact d13⟩, he, (adv_ok (Nat.zero_le _)).1, ⟨hld.fk fe, fun k hk => ?_, fun t ht => absurd ht (Nat.not_lt_zero _), fun t ht => absurd ht (Nat.not_lt_zero _), fun t ht => absurd ht (Nat.not_lt_zero _), fun t ht => absurd ht (Nat.not_lt_zero _)⟩, ⟨?_, fun i hi => absurd hi (Nat.not_lt_zero _)⟩, ⟨Nat.zero_le _, fun i hi => absurd hi (Nat.not_lt_zero _), fun i j hi => absurd hi (Nat.not_lt_zero _)⟩, ⟨Nat.zero_le 12, Nat.zero_le 4, Nat.zero_le 8, Nat.zero_le 16, Nat.zero_le 3, Nat.zero_le 3⟩⟩
    · rw [fe.I (by omega), ind k]
      show _ = nI (if k = 4 then 0 else 0)
      rw [ite_self]
    · rw [fe.I (by omega)]; exact ind 7
  try simp (disch := omega) only [hre.1.1.all, hre.1.2.1, hre.2.1, hre.2.2.1.2.1, hre.2.2.1.2.2.1, hre.2.2.2.2.1.1.all, hre.cn, hre.2.2.2.2.2.1.1, hre.2.2.2.2.2.1.2, wr_s, in_nI, clN, ti_z, ti_l, true_and, and_true, kI, zI, rI, kL, zL, rL, kR, zR, nnI, nnL, nnR, iL, iR, lI, lR, exi, exl, exv, eq_self, nI_add, nI_mul, nI_sub, nI_ltI, nI_leI, nI_eq, q0, q1, q2, q3, q4, q5, q6, q10, q100, br_Tr, br_Fa, iI_s, iI_n, bI_q0, bI_q1, or_true, true_or, not_true_eq_false, not_false_eq_true, nI_l, ge64, Nat.lt_irrefl, Nat.add_sub_cancel, Nat.not_lt_zero, lN_0, lN_1e4, lN_1e6, lN_1e3, lN_add, lN_mul, lN_ltI, lN_leI, lN_eqI, lN_i, lcE, lcLe, lcLt, lN_div, q7, q12, q20, q99, q200, q999, q1e4, if_true, if_false, Nat.le_refl, q8, q11, q16, q18, q32, q44, q48, q57, q59, q97, q122, q900]
  refine d247 hG hre (LI_0 _) (fun k _ _ => by rw [fe.I (by omega)]; exact izd k) (fun μf ff hf => ?_)
  have F : FK (PZ N) μd μf := (fe.mono (P' := PZ N) (fun b k q => Or.inl ⟨q.1, q.2.1⟩)).trans ff
  have of := od.K F (fun b k q => by omega)
  have mnf : mN μf = N + 18 := by have e := F.1; unfold mN at *; omega
  have f6 : gI μf 332 6 = nI 0 := by rw [F.I (by omega)]; exact d6
  have hf : MQ2 μf N (prs (tp st) j) := hf
  cases e : prs (tp st) j with
  | inl e0 =>
    rw [e] at q hf
    simp only at q
    have hf : MO μf N e0 := hf
    try simp (disch := omega) only [hf.1.all, hf.2.1, hf.2.2.1.all, hf.2.2.2.2.1, show ¬ (5 = 2) by omega, show ¬ (5 = 3) by omega, show ¬ (5 = 4) by omega, show ¬ (5 = 1) by omega, show ¬ (1 = 0) by omega, hf.2.2.2.2.2.1, hf.2.2.2.2.2.2.1, wr_s, in_nI, clN, ti_z, ti_l, true_and, and_true, kI, zI, rI, kL, zL, rL, kR, zR, nnI, nnL, nnR, iL, iR, lI, lR, exi, exl, exv, eq_self, nI_add, nI_mul, nI_sub, nI_ltI, nI_leI, nI_eq, q0, q1, q2, q3, q4, q5, q6, q10, q100, br_Tr, br_Fa, iI_s, iI_n, bI_q0, bI_q1, or_true, true_or, not_true_eq_false, not_false_eq_true, nI_l, ge64, Nat.lt_irrefl, Nat.add_sub_cancel, Nat.not_lt_zero, lN_0, lN_1e4, lN_1e6, lN_1e3, lN_add, lN_mul, lN_ltI, lN_leI, lN_eqI, lN_i, lcE, lcLe, lcLt, lN_div, q7, q12, q20, q99, q200, q999, q1e4, if_true, if_false, Nat.le_refl, q8, q11, q16, q18, q32, q44, q48, q57, q59, q97, q122, q900]
    refine ax_brf (by rw [nI_leI (by have := hf.2.2.2.2.2.2.2; omega) (by omega)]; have := hf.2.2.2.2.2.2.2; omega) ?_
    have fg : Fr (fun b k => b = 332 ∧ (k = 1 ∨ k = 2)) μf (sI (sI μf 332 1 (nI 4)) 332 2 (nI e0.2)) := ((Fr.refl _ _).put ⟨rfl, by omega⟩).put ⟨rfl, by omega⟩
    refine q _ ((of.I (by omega)).I (by omega)) ⟨hf.1.fr fg, ⟨?_, ?_, ?_, ?_⟩, ⟨Nat.zero_le _, by show 341 ≤ mN μf; omega⟩, fun i hi => absurd hi (Nat.not_lt_zero _), ?_⟩
    · rw [iI_n (by omega)]; exact iI_s _ _ _ _
    · exact iI_s _ _ _ _
    · rw [fg.I (by omega)]; exact f6
    · rw [fg.I (by omega)]; exact hf.2.2.2.2.2.1
    · rcases hx.2.2.2.2 with ⟨h5, h5'⟩ | ⟨a, N0, h6, h7, h8⟩
      · refine Or.inl ⟨h5, ?_⟩
        rw [rI, rI, F.R, nd3 3 (by omega)]; exact h5'
      · refine Or.inr ⟨a, N0, h6, ?_, ((oldD a N0 h7 h8).fk F (fun b k q => by omega)).fr fg (fun b k q => by omega)⟩
        show N0 + 18 ≤ mN μf
        omega
  | inr s =>
    rw [e] at q hf
    simp only at q
    obtain ⟨hfm, hf4, hfr, hf13⟩ : isMo μf ∧ gR μf 332 4 = some N ∧ RepM μf N (pL s) ∧ gI μf 332 13 = nI 0 := hf
    have ha := prs_ok e
    generalize pL s = a at q hfr ha
    have hbd := ha.bd
    try simp (disch := omega) only [hfm.all, hf13, hf4, wr_s, in_nI, clN, ti_z, ti_l, true_and, and_true, kI, zI, rI, kL, zL, rL, kR, zR, nnI, nnL, nnR, iL, iR, lI, lR, exi, exl, exv, eq_self, nI_add, nI_mul, nI_sub, nI_ltI, nI_leI, nI_eq, q0, q1, q2, q3, q4, q5, q6, q10, q100, br_Tr, br_Fa, iI_s, iI_n, bI_q0, bI_q1, or_true, true_or, not_true_eq_false, not_false_eq_true, nI_l, ge64, Nat.lt_irrefl, Nat.add_sub_cancel, Nat.not_lt_zero, lN_0, lN_1e4, lN_1e6, lN_1e3, lN_add, lN_mul, lN_ltI, lN_leI, lN_eqI, lN_i, lcE, lcLe, lcLt, lN_div, q7, q12, q20, q99, q200, q999, q1e4, if_true, if_false, Nat.le_refl, q8, q11, q16, q18, q32, q44, q48, q57, q59, q97, q122, q900]
    have hw : MW (sR μf 332 3 (some N)) N a := ⟨ha, isMo_r hfm (Or.inl rfl), rR_s _ _ _ _, isML_r hfr.1, hfr.2⟩
    refine d202 hw (fun μg fg hg => ?_)
    have hbg := hg.bd
    have hxg : Mx μg (tp st, 0, tro st, 0, pla st, some a) := by
      refine ⟨hg.1.1.2.1, ⟨?_, ?_, ?_, ?_⟩, ⟨Nat.zero_le _, ?_⟩, fun i hi => absurd hi (Nat.not_lt_zero _), Or.inr ⟨a, N, rfl, ?_, hg⟩⟩
      · rw [fg.I (by unfold PLy; omega), iR, F.I (by omega)]; exact d1
      · rw [fg.I (by unfold PLy; omega), iR, F.I (by omega)]; exact d2
      · rw [fg.I (by unfold PLy; omega), iR]; exact f6
      · rw [fg.I (by unfold PLy; omega), iR]; exact hf13
      · have e1 := fg.1
        have e2 : mN (sR μf 332 3 (some N)) = mN μf := rfl
        unfold mN at *
        omega
      · have e1 := fg.1
        have e2 : mN (sR μf 332 3 (some N)) = mN μf := rfl
        unfold mN at *
        omega
    try simp (disch := omega) only [hg.1.1.2.1.all, hg.1.1.2.2.1, hg.1.1.2.2.2.1.all, hg.1.1.2.2.2.all, hg.1.2, hg.2, wr_s, in_nI, clN, ti_z, ti_l, true_and, and_true, kI, zI, rI, kL, zL, rL, kR, zR, nnI, nnL, nnR, iL, iR, lI, lR, exi, exl, exv, eq_self, nI_add, nI_mul, nI_sub, nI_ltI, nI_leI, nI_eq, q0, q1, q2, q3, q4, q5, q6, q10, q100, br_Tr, br_Fa, iI_s, iI_n, bI_q0, bI_q1, or_true, true_or, not_true_eq_false, not_false_eq_true, nI_l, ge64, Nat.lt_irrefl, Nat.add_sub_cancel, Nat.not_lt_zero, lN_0, lN_1e4, lN_1e6, lN_1e3, lN_add, lN_mul, lN_ltI, lN_leI, lN_eqI, lN_i, lcE, lcLe, lcLt, lN_div, q7, q12, q20, q99, q200, q999, q1e4, if_true, if_false, Nat.le_refl, q8, q11, q16, q18, q32, q44, q48, q57, q59, q97, q122, q900]
    refine d51' hxg (fun μh oh hxh => ?_)
    exact q μh (((of.R (by omega)).F fg (fun b k q => by unfold PLy at q; omega)).trans oh) hxh
theorem lo8_w (y : Int32) : lo8 y = (y.toBitVec.setWidth 8).toNat := by rw [BitVec.toNat_setWidth]; rfl
theorem lo8_x (y : Int32) : lo8 (Int8.toInt32 (Int32.toInt8 y)) = lo8 y := by
  rw [lo8_w, lo8_w]
  congr 1
  show ((y.toBitVec.signExtend 8).signExtend 32).setWidth 8 = y.toBitVec.setWidth 8
  ext i hi
  rw [BitVec.getElem_setWidth, BitVec.getElem_setWidth, BitVec.getLsbD_signExtend, BitVec.getLsbD_signExtend]
  rw [decide_eq_true (show i < 32 by omega), decide_eq_true (show i < 8 by omega), if_pos (show i < 8 by omega), if_pos (show i < 32 by omega)]
  rfl
theorem lo8_s {x : Int32} {j : Nat} (hj : j < 4) : lo8 (x >>> (nI (24 - 8 * j) &&& 31)) = by4 x j := by
  unfold by4
  rw [lo8_w, lo8_w]
  congr 1
  have e1 : (x >>> (nI (24 - 8 * j) &&& 31)).toBitVec = x.toBitVec.sshiftRight (24 - 8 * j) := by
    rw [Int32.toBitVec_shiftRight]
    rcases (show j = 0 ∨ j = 1 ∨ j = 2 ∨ j = 3 by omega) with rfl | rfl | rfl | rfl <;> rfl
  have e2 : ((Int32.toUInt32 x >>> (Int32.toUInt32 (s4 j) &&& Int32.toUInt32 31)).toInt32).toBitVec = x.toBitVec >>> (24 - 8 * j) := by
    rcases (show j = 0 ∨ j = 1 ∨ j = 2 ∨ j = 3 by omega) with rfl | rfl | rfl | rfl <;> rfl
  rw [e1, e2]
  ext i hi
  simp only [BitVec.getElem_setWidth, BitVec.getLsbD_sshiftRight, BitVec.getLsbD_ushiftRight]
  rw [if_pos (by omega)]
  simp
  omega
theorem mb4 {x : Int32} {j : Nat} (hj : j < 4) : Int8.toInt32 (Int32.toInt8 (Int8.toInt32 (Int32.toInt8 (x >>> (nI (24 - 8 * j) &&& 31))))) &&& 255 = nI (by4 x j) := by
  rw [lo8_e, lo8_x, lo8_x, lo8_s hj]
theorem m54 {x1 x2 x3 x4 x5 : Int32} {K : Int32 → ax_M → Prop} (hx : Mx μ st) (q : ∀ μ', OutM μ μ' → Mx μ' (aFeed st x1 x2 x3 x4 x5).2 → K (aFeed st x1 x2 x3 x4 x5).1 μ') : ax_CI l G 54 [ax_r (some 332), ax_i x1, ax_i x2, ax_i x3, ax_i x4, ax_i x5] μ K := by
  have hb := hx.bd
  unfold aFeed at q
  refine ax_Ct.of (by decide) (Nat.le_of_ble_eq_true rfl) (sg54_0 l G _ 332 _ _ _ _ _ _ ?_)
  try simp (disch := omega) only [hx.1.all, hx.2.1, wr_s, in_nI, clN, ti_z, ti_l, true_and, and_true, kI, zI, rI, kL, zL, rL, kR, zR, nnI, nnL, nnR, iL, iR, lI, lR, exi, exl, exv, eq_self, nI_add, nI_mul, nI_sub, nI_ltI, nI_leI, nI_eq, q0, q1, q2, q3, q4, q5, q6, q10, q100, br_Tr, br_Fa, iI_s, iI_n, bI_q0, bI_q1, or_true, true_or, not_true_eq_false, not_false_eq_true, nI_l, ge64, Nat.lt_irrefl, Nat.add_sub_cancel, Nat.not_lt_zero, lN_0, lN_1e4, lN_1e6, lN_1e3, lN_add, lN_mul, lN_ltI, lN_leI, lN_eqI, lN_i, lcE, lcLe, lcLt, lN_div, q7, q12, q20, q99, q200, q999, q1e4, if_true, if_false, Nat.le_refl, q8, q11, q16, q18, q32, q44, q48, q57, q59, q97, q122, q900]
  refine ax_brc (fun c => ?_) (fun c => ?_)
  rotate_left
  · rw [if_neg c] at q
    exact q _ OutM.s0 hx.s0
  rw [if_pos c] at q
  have hx0 := hx.s0 (v := nI 0)
  have o0 : OutM μ (sI μ 332 0 (nI 0)) := OutM.s0
  have hn0 : mN (sI μ 332 0 (nI 0)) = mN μ := rfl
  generalize sI μ 332 0 (nI 0) = μ0 at hx0 o0 hn0 ⊢
  refine up_to (P := fun k => ∀ μk, Fr (fun b i => (b = 332 ∧ i = 6) ∨ b = 333) μ0 μk → gI μk 332 6 = nI (ln st + k) → (∀ i, i < ln st → gI μk 333 i = gI μ0 333 i) → (∀ i, i < k → gI μk 333 (ln st + i) &&& 255 = nI (by4 (fdA x1 x2 x3 x4 x5 i) (i % 4))) → (ax_Rw l G ax_h54 (ax_E G ax_h54 (fun x μ' => ∃ v : Int32, x = some (ax_i v) ∧ K v μ')) 23 [(0, ax_r (some 332)), (1, ax_i x1), (2, ax_i x2), (3, ax_i x3), (4, ax_i x4), (5, ax_i x5), (6, ax_i (nI k))] [] 0 0 μk)) 20 (fun μk f g6 h1 h2 => ?_) (fun k hk ih μk f g6 h1 h2 => ?_) 0 (by omega) μ0 (Fr.refl _ _) hx0.2.1.2.2.1 (fun i _ => rfl) (fun i hi => by omega)
  · have hm := hx0.1.fr f
    refine sg54_23 l G _ 332 _ _ _ _ _ _ _ ?_
    try simp (disch := omega) only [hm.all, g6, wr_s, in_nI, clN, ti_z, ti_l, true_and, and_true, kI, zI, rI, kL, zL, rL, kR, zR, nnI, nnL, nnR, iL, iR, lI, lR, exi, exl, exv, eq_self, nI_add, nI_mul, nI_sub, nI_ltI, nI_leI, nI_eq, q0, q1, q2, q3, q4, q5, q6, q10, q100, br_Tr, br_Fa, iI_s, iI_n, bI_q0, bI_q1, or_true, true_or, not_true_eq_false, not_false_eq_true, nI_l, ge64, Nat.lt_irrefl, Nat.add_sub_cancel, Nat.not_lt_zero, lN_0, lN_1e4, lN_1e6, lN_1e3, lN_add, lN_mul, lN_ltI, lN_leI, lN_eqI, lN_i, lcE, lcLe, lcLt, lN_div, q7, q12, q20, q99, q200, q999, q1e4, if_true, if_false, Nat.le_refl, q8, q11, q16, q18, q32, q44, q48, q57, q59, q97, q122, q900]
    refine q μk (o0.F f (fun b k q => by omega)) ⟨hm, ⟨?_, ?_, g6, ?_⟩, ⟨c, ?_⟩, fun i hi => ?_, ?_⟩
    · rw [f.I (by omega)]; exact hx0.2.1.1
    · rw [f.I (by omega)]; exact hx0.2.1.2.1
    · rw [f.I (by omega)]; exact hx0.2.1.2.2.2
    · have e := f.1
      have e2 := hx0.2.2.1.2
      unfold mN at *
      omega
    · have hi : i < ln st + 20 := hi
      show _ = nI (fdT st x1 x2 x3 x4 x5 i)
      unfold fdT
      by_cases c0 : i < ln st
      · rw [if_pos c0, h1 i c0]; exact hx0.2.2.2.1 i c0
      · rw [if_neg c0]
        have := h2 (i - ln st) (by omega)
        rw [show ln st + (i - ln st) = i by omega] at this
        exact this
    · rcases hx0.2.2.2.2 with ⟨h5, h5'⟩ | ⟨a, N, h6, h7, h8⟩
      · exact Or.inl ⟨h5, by rw [f.R]; exact h5'⟩
      · exact Or.inr ⟨a, N, h6, by have e := f.1; unfold mN at *; omega, h8.fr f (fun b k q => by omega)⟩
  · have hm := hx0.1.fr f
    have hk4 : k / 4 * 4 ≤ k := by omega
    have h8 : 8 * (k - k / 4 * 4) ≤ 24 := by omega
    have e4 : k - k / 4 * 4 = k % 4 := by omega
    have fin : ∀ xx, fdA x1 x2 x3 x4 x5 k = xx → ∀ v, v &&& 255 = nI (by4 xx (k % 4)) → (ax_Rw l G ax_h54 (ax_E G ax_h54 (fun x μ' => ∃ v : Int32, x = some (ax_i v) ∧ K v μ')) 101 [(0, ax_r (some 332)), (1, ax_i x1), (2, ax_i x2), (3, ax_i x3), (4, ax_i x4), (5, ax_i x5), (6, ax_i (nI k))] [] 0 0 (sI μk 333 (ln st + k) v)) := by
      intro xx hxx v hv
      refine sg54_101 l G _ 332 _ _ _ _ _ _ _ ?_
      try simp (disch := omega) only [hm.all, g6, wr_s, in_nI, clN, ti_z, ti_l, true_and, and_true, kI, zI, rI, kL, zL, rL, kR, zR, nnI, nnL, nnR, iL, iR, lI, lR, exi, exl, exv, eq_self, nI_add, nI_mul, nI_sub, nI_ltI, nI_leI, nI_eq, q0, q1, q2, q3, q4, q5, q6, q10, q100, br_Tr, br_Fa, iI_s, iI_n, bI_q0, bI_q1, or_true, true_or, not_true_eq_false, not_false_eq_true, nI_l, ge64, Nat.lt_irrefl, Nat.add_sub_cancel, Nat.not_lt_zero, lN_0, lN_1e4, lN_1e6, lN_1e3, lN_add, lN_mul, lN_ltI, lN_leI, lN_eqI, lN_i, lcE, lcLe, lcLt, lN_div, q7, q12, q20, q99, q200, q999, q1e4, if_true, if_false, Nat.le_refl, q8, q11, q16, q18, q32, q44, q48, q57, q59, q97, q122, q900]
      refine sg54_111 l G _ 332 _ _ _ _ _ _ _ ?_
      try simp (disch := omega) only [wr_s, in_nI, clN, ti_z, ti_l, true_and, and_true, kI, zI, rI, kL, zL, rL, kR, zR, nnI, nnL, nnR, iL, iR, lI, lR, exi, exl, exv, eq_self, nI_add, nI_mul, nI_sub, nI_ltI, nI_leI, nI_eq, q0, q1, q2, q3, q4, q5, q6, q10, q100, br_Tr, br_Fa, iI_s, iI_n, bI_q0, bI_q1, or_true, true_or, not_true_eq_false, not_false_eq_true, nI_l, ge64, Nat.lt_irrefl, Nat.add_sub_cancel, Nat.not_lt_zero, lN_0, lN_1e4, lN_1e6, lN_1e3, lN_add, lN_mul, lN_ltI, lN_leI, lN_eqI, lN_i, lcE, lcLe, lcLt, lN_div, q7, q12, q20, q99, q200, q999, q1e4, if_true, if_false, Nat.le_refl, q8, q11, q16, q18, q32, q44, q48, q57, q59, q97, q122, q900]
      refine ih _ ((f.put (Or.inr rfl)).put (Or.inl ⟨rfl, rfl⟩)) ?_ (fun i hi => ?_) (lt_s (fun i hi => ?_) ?_)
      · rw [iI_s, show ln st + (k + 1) = ln st + k + 1 by omega]
      · rw [iI_n (by omega), iI_n (by omega)]; exact h1 i hi
      · rw [iI_n (by omega), iI_n (by omega)]; exact h2 i hi
      · rw [iI_n (by omega), iI_s, hv, hxx]
    refine sg54_23 l G _ 332 _ _ _ _ _ _ _ ?_
    try simp (disch := omega) only [hm.all, g6, hk, nI_div, q24, wr_s, in_nI, clN, ti_z, ti_l, true_and, and_true, kI, zI, rI, kL, zL, rL, kR, zR, nnI, nnL, nnR, iL, iR, lI, lR, exi, exl, exv, eq_self, nI_add, nI_mul, nI_ltI, nI_leI, nI_eq, q0, q1, q2, q3, q4, q5, q6, q10, q100, br_Tr, br_Fa, iI_s, iI_n, bI_q0, bI_q1, or_true, true_or, not_true_eq_false, not_false_eq_true, nI_l, ge64, Nat.lt_irrefl, Nat.add_sub_cancel, Nat.not_lt_zero, lN_0, lN_1e4, lN_1e6, lN_1e3, lN_add, lN_mul, lN_ltI, lN_leI, lN_eqI, lN_i, lcE, lcLe, lcLt, lN_div, q7, q12, q20, q99, q200, q999, q1e4, if_true, if_false, Nat.le_refl, q8, q11, q16, q18, q32, q44, q48, q57, q59, q97, q122, q900]
    rw [nI_sub hk4, nI_mul, nI_sub h8, e4]
    have m4 : k % 4 < 4 := Nat.mod_lt _ (by decide)
    have ne4 : ¬ (nI 4 = nI 0) := by rw [nI_eq (by omega) (by omega)]; omega
    refine ax_brc (fun c1 => ⟨by omega, fin x1 (if_pos c1) _ (mb4 m4)⟩) (fun c1 => ?_)
    refine ax_brc (fun c2 => ⟨by omega, fin x2 ((if_neg c1).trans (if_pos c2)) _ (mb4 m4)⟩) (fun c2 => ?_)
    refine ax_brc (fun c3 => ⟨by omega, fin x3 ((if_neg c1).trans ((if_neg c2).trans (if_pos c3))) _ (mb4 m4)⟩) (fun c3 => ?_)
    refine ax_brc (fun c4 => ⟨by omega, fin x4 ((if_neg c1).trans ((if_neg c2).trans ((if_neg c3).trans (if_pos c4)))) _ (mb4 m4)⟩) (fun c4 => ?_)
    exact ⟨by omega, fin x5 ((if_neg c1).trans ((if_neg c2).trans ((if_neg c3).trans (if_neg c4)))) _ (mb4 m4)⟩
end V9
