/-! the model: a new land, land, feed -/
def kd (j : Nat) : Nat := [21, 21, 21, 21, 21, 21, 21, 21, 21, 21, 21, 21, 23, 23, 22, 21, 21].getD j 0
def sz (j : Nat) : Nat := [8, 8, 8, 8, 21, 21, 21, 21, 3, 3, 12, 3, 3, 3, 18, 18, 18].getD j 0
/-- a new land with its first j rows -/
def Nl (μ μj : ax_M) (N j : Nat) : Prop := mN μj = N + 1 + j ∧ Ag N μ μj ∧ mK μj N = 11 ∧ (∀ k, gI μj N k = gI μ N k) ∧ ∀ i, i < j → gR μj N (8 + i) = some (N + 1 + i) ∧ mK μj (N + 1 + i) = kd i ∧ mZ μj (N + 1 + i) = sz i ∧ ∀ k, gI μj (N + 1 + i) k = nI 0
theorem Nl.st {μ μj : ax_M} {N j k z : Nat} (h : Nl μ μj N j) (hk : kd j = k) (hz : sz j = z) : Nl μ (sR (nC μj k z) N (8 + j) (some (mN μj))) N (j + 1) := by
  obtain ⟨h1, h2, h3, h4, h5⟩ := h
  refine ⟨by show mN μj + 1 = _; omega, fun b hb => ?_, ?_, fun i => ?_, fun i hi => ?_⟩
  · have a := (Ag.new μj k z) b (by omega)
    have c := h2 b hb
    refine ⟨a.1.trans c.1, fun i => ⟨(a.2 i).1.trans (c.2 i).1, (a.2 i).2.1.trans (c.2 i).2.1, ?_⟩⟩
    rw [rR_n (Or.inl (by omega))]
    exact (a.2 i).2.2.trans (c.2 i).2.2
  · rw [kR, nCK (by omega)]; exact h3
  · show gI (nC μj k z) N i = _
    rw [nCI (by omega)]; exact h4 i
  · by_cases e : i = j
    · subst e
      refine ⟨by rw [rR_s, h1], ?_, ?_, fun i => ?_⟩
      · rw [kR, ← h1, nCk, hk]
      · rw [zR, ← h1, nCz, hz]
      · show gI (nC μj k z) _ i = _
        rw [ax_gI_nC, if_pos h1.symm]; exact q0
    · have q := h5 i (by omega)
      refine ⟨by rw [rR_n (Or.inr (by omega)), nCR (by omega)]; exact q.1, by rw [kR, nCK (by omega)]; exact q.2.1, by rw [zR, nCZ (by omega)]; exact q.2.2.1, fun i => ?_⟩
      show gI (nC μj k z) _ i = _
      rw [nCI (by omega)]; exact q.2.2.2 i
theorem Nl.ml {μ μj : ax_M} {N : Nat} (h : Nl μ μj N 17) (hN : 341 ≤ N) : isML μj N := by
  have q := h.2.2.2.2
  exact ⟨hN, h.2.2.1, (q 0 (by omega)).1, (q 0 (by omega)).2.1, (q 0 (by omega)).2.2.1, (q 1 (by omega)).1, (q 1 (by omega)).2.1, (q 1 (by omega)).2.2.1, (q 2 (by omega)).1, (q 2 (by omega)).2.1, (q 2 (by omega)).2.2.1, (q 3 (by omega)).1, (q 3 (by omega)).2.1, (q 3 (by omega)).2.2.1, (q 4 (by omega)).1, (q 4 (by omega)).2.1, (q 4 (by omega)).2.2.1, (q 5 (by omega)).1, (q 5 (by omega)).2.1, (q 5 (by omega)).2.2.1, (q 6 (by omega)).1, (q 6 (by omega)).2.1, (q 6 (by omega)).2.2.1, (q 7 (by omega)).1, (q 7 (by omega)).2.1, (q 7 (by omega)).2.2.1, (q 8 (by omega)).1, (q 8 (by omega)).2.1, (q 8 (by omega)).2.2.1, (q 9 (by omega)).1, (q 9 (by omega)).2.1, (q 9 (by omega)).2.2.1, (q 10 (by omega)).1, (q 10 (by omega)).2.1, (q 10 (by omega)).2.2.1, (q 11 (by omega)).1, (q 11 (by omega)).2.1, (q 11 (by omega)).2.2.1, (q 12 (by omega)).1, (q 12 (by omega)).2.1, (q 12 (by omega)).2.2.1, (q 13 (by omega)).1, (q 13 (by omega)).2.1, (q 13 (by omega)).2.2.1, (q 14 (by omega)).1, (q 14 (by omega)).2.1, (q 14 (by omega)).2.2.1, (q 15 (by omega)).1, (q 15 (by omega)).2.1, (q 15 (by omega)).2.2.1, (q 16 (by omega)).1, (q 16 (by omega)).2.1, (q 16 (by omega)).2.2.1⟩
section V8
variable {l : Launch} {G : ax_G} {μ : ax_M} {N : Nat}
theorem d75 {K : ax_M → Prop} (hN : mN μ = N + 1) (hk : mK μ N = 11) (h3 : 341 ≤ N) (q : ∀ μ', Nl μ μ' N 17 → K μ') : ax_CV l G 75 [ax_r (some N)] μ K := by
  have n0 : Nl μ μ N 0 := ⟨by omega, fun b _ => ⟨rfl, fun _ => ⟨rfl, rfl, rfl⟩⟩, hk, fun _ => rfl, fun i hi => absurd hi (Nat.not_lt_zero _)⟩
  refine ax_Ct.of (by decide) (Nat.le_of_ble_eq_true rfl) (sg75_0 l G _ N _ ?_)
  refine ⟨by omega, ⟨by decide, by decide +kernel⟩, ax_gd.mk (by decide) (by decide +kernel) ⟨⟨by omega, by rw [nCK (by omega)]; exact hk⟩, ?_⟩⟩
  rw [show Int32.toNatClampNeg 8 = 8 from rfl]
  have n1 := n0.st (k := 21) (z := 8) rfl rfl
  generalize sR (nC μ 21 8) N 8 (some (mN μ)) = μ1 at n1 ⊢
  refine sg75_12 l G _ N _ _ _ ?_
  rw [show Int32.toNatClampNeg 8 = 8 from rfl]
  refine ⟨⟨by decide, by decide +kernel⟩, ax_gd.mk (by omega) (by omega) ⟨⟨by omega, by rw [nCK (by have := n1.1; omega)]; exact n1.2.2.1⟩, ?_⟩⟩
  have n2 := n1.st (k := 21) (z := 8) rfl rfl
  generalize sR (nC μ1 21 8) N 9 (some (mN μ1)) = μ2 at n2 ⊢
  refine sg75_20 l G _ N _ _ _ ?_
  rw [show Int32.toNatClampNeg 8 = 8 from rfl]
  refine ⟨⟨by decide, by decide +kernel⟩, ax_gd.mk (by omega) (by omega) ⟨⟨by omega, by rw [nCK (by have := n2.1; omega)]; exact n2.2.2.1⟩, ?_⟩⟩
  have n3 := n2.st (k := 21) (z := 8) rfl rfl
  generalize sR (nC μ2 21 8) N 10 (some (mN μ2)) = μ3 at n3 ⊢
  refine sg75_28 l G _ N _ _ _ ?_
  rw [show Int32.toNatClampNeg 8 = 8 from rfl]
  refine ⟨⟨by decide, by decide +kernel⟩, ax_gd.mk (by omega) (by omega) ⟨⟨by omega, by rw [nCK (by have := n3.1; omega)]; exact n3.2.2.1⟩, ?_⟩⟩
  have n4 := n3.st (k := 21) (z := 8) rfl rfl
  generalize sR (nC μ3 21 8) N 11 (some (mN μ3)) = μ4 at n4 ⊢
  refine sg75_36 l G _ N _ _ _ ?_
  rw [show Int32.toNatClampNeg 21 = 21 from rfl]
  refine ⟨⟨by decide, by decide +kernel⟩, ax_gd.mk (by omega) (by omega) ⟨⟨by omega, by rw [nCK (by have := n4.1; omega)]; exact n4.2.2.1⟩, ?_⟩⟩
  have n5 := n4.st (k := 21) (z := 21) rfl rfl
  generalize sR (nC μ4 21 21) N 12 (some (mN μ4)) = μ5 at n5 ⊢
  refine sg75_44 l G _ N _ _ _ ?_
  rw [show Int32.toNatClampNeg 21 = 21 from rfl]
  refine ⟨⟨by decide, by decide +kernel⟩, ax_gd.mk (by omega) (by omega) ⟨⟨by omega, by rw [nCK (by have := n5.1; omega)]; exact n5.2.2.1⟩, ?_⟩⟩
  have n6 := n5.st (k := 21) (z := 21) rfl rfl
  generalize sR (nC μ5 21 21) N 13 (some (mN μ5)) = μ6 at n6 ⊢
  refine sg75_52 l G _ N _ _ _ ?_
  rw [show Int32.toNatClampNeg 21 = 21 from rfl]
  refine ⟨⟨by decide, by decide +kernel⟩, ax_gd.mk (by omega) (by omega) ⟨⟨by omega, by rw [nCK (by have := n6.1; omega)]; exact n6.2.2.1⟩, ?_⟩⟩
  have n7 := n6.st (k := 21) (z := 21) rfl rfl
  generalize sR (nC μ6 21 21) N 14 (some (mN μ6)) = μ7 at n7 ⊢
  refine sg75_60 l G _ N _ _ _ ?_
  rw [show Int32.toNatClampNeg 21 = 21 from rfl]
  refine ⟨⟨by decide, by decide +kernel⟩, ax_gd.mk (by omega) (by omega) ⟨⟨by omega, by rw [nCK (by have := n7.1; omega)]; exact n7.2.2.1⟩, ?_⟩⟩
  have n8 := n7.st (k := 21) (z := 21) rfl rfl
  generalize sR (nC μ7 21 21) N 15 (some (mN μ7)) = μ8 at n8 ⊢
  refine sg75_68 l G _ N _ _ _ ?_
  rw [show Int32.toNatClampNeg 3 = 3 from rfl]
  refine ⟨⟨by decide, by decide +kernel⟩, ax_gd.mk (by omega) (by omega) ⟨⟨by omega, by rw [nCK (by have := n8.1; omega)]; exact n8.2.2.1⟩, ?_⟩⟩
  have n9 := n8.st (k := 21) (z := 3) rfl rfl
  generalize sR (nC μ8 21 3) N 16 (some (mN μ8)) = μ9 at n9 ⊢
  refine sg75_75 l G _ N _ _ _ ?_
  rw [show Int32.toNatClampNeg 3 = 3 from rfl]
  refine ⟨⟨by decide, by decide +kernel⟩, ax_gd.mk (by omega) (by omega) ⟨⟨by omega, by rw [nCK (by have := n9.1; omega)]; exact n9.2.2.1⟩, ?_⟩⟩
  have n10 := n9.st (k := 21) (z := 3) rfl rfl
  generalize sR (nC μ9 21 3) N 17 (some (mN μ9)) = μ10 at n10 ⊢
  refine sg75_82 l G _ N _ _ _ ?_
  rw [show Int32.toNatClampNeg 12 = 12 from rfl]
  refine ⟨⟨by decide, by decide +kernel⟩, ax_gd.mk (by omega) (by omega) ⟨⟨by omega, by rw [nCK (by have := n10.1; omega)]; exact n10.2.2.1⟩, ?_⟩⟩
  have n11 := n10.st (k := 21) (z := 12) rfl rfl
  generalize sR (nC μ10 21 12) N 18 (some (mN μ10)) = μ11 at n11 ⊢
  refine sg75_90 l G _ N _ _ _ ?_
  rw [show Int32.toNatClampNeg 3 = 3 from rfl]
  refine ⟨⟨by decide, by decide +kernel⟩, ax_gd.mk (by omega) (by omega) ⟨⟨by omega, by rw [nCK (by have := n11.1; omega)]; exact n11.2.2.1⟩, ?_⟩⟩
  have n12 := n11.st (k := 21) (z := 3) rfl rfl
  generalize sR (nC μ11 21 3) N 19 (some (mN μ11)) = μ12 at n12 ⊢
  refine sg75_97 l G _ N _ _ _ ?_
  rw [show Int32.toNatClampNeg 3 = 3 from rfl]
  refine ⟨⟨by decide, by decide +kernel⟩, ax_gd.mk (by omega) (by omega) ⟨⟨by omega, by rw [nCK (by have := n12.1; omega)]; exact n12.2.2.1⟩, ?_⟩⟩
  have n13 := n12.st (k := 23) (z := 3) rfl rfl
  generalize sR (nC μ12 23 3) N 20 (some (mN μ12)) = μ13 at n13 ⊢
  refine sg75_104 l G _ N _ _ _ ?_
  rw [show Int32.toNatClampNeg 3 = 3 from rfl]
  refine ⟨⟨by decide, by decide +kernel⟩, ax_gd.mk (by omega) (by omega) ⟨⟨by omega, by rw [nCK (by have := n13.1; omega)]; exact n13.2.2.1⟩, ?_⟩⟩
  have n14 := n13.st (k := 23) (z := 3) rfl rfl
  generalize sR (nC μ13 23 3) N 21 (some (mN μ13)) = μ14 at n14 ⊢
  refine sg75_111 l G _ N _ _ _ ?_
  rw [show Int32.toNatClampNeg 18 = 18 from rfl]
  refine ⟨⟨by decide, by decide +kernel⟩, ax_gd.mk (by omega) (by omega) ⟨⟨by omega, by rw [nCK (by have := n14.1; omega)]; exact n14.2.2.1⟩, ?_⟩⟩
  have n15 := n14.st (k := 22) (z := 18) rfl rfl
  generalize sR (nC μ14 22 18) N 22 (some (mN μ14)) = μ15 at n15 ⊢
  refine sg75_119 l G _ N _ _ _ ?_
  rw [show Int32.toNatClampNeg 18 = 18 from rfl]
  refine ⟨⟨by decide, by decide +kernel⟩, ax_gd.mk (by omega) (by omega) ⟨⟨by omega, by rw [nCK (by have := n15.1; omega)]; exact n15.2.2.1⟩, ?_⟩⟩
  have n16 := n15.st (k := 21) (z := 18) rfl rfl
  generalize sR (nC μ15 21 18) N 23 (some (mN μ15)) = μ16 at n16 ⊢
  refine sg75_127 l G _ N _ _ _ ?_
  rw [show Int32.toNatClampNeg 18 = 18 from rfl]
  refine ⟨⟨by decide, by decide +kernel⟩, ax_gd.mk (by omega) (by omega) ⟨⟨by omega, by rw [nCK (by have := n16.1; omega)]; exact n16.2.2.1⟩, ?_⟩⟩
  have n17 := n16.st (k := 21) (z := 18) rfl rfl
  generalize sR (nC μ16 21 18) N 24 (some (mN μ16)) = μ17 at n17 ⊢
  refine sg75_135 l G _ _ _ _ ?_
  refine ax_gd.mk (by omega) (by omega) ?_
  exact ⟨rfl, q _ n17⟩
end V8
