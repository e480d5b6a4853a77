/-! the constructors of a tally, of the reader, of the class and of the model -/
section W0
variable {μ0 μ : ax_M} {y a i k z n : Nat} {v : Option Nat}
theorem Ag.w0 (h : Ag y μ0 μ) (ha : y ≤ a) : Ag y μ0 (sR μ a i v) := fun b hb => ⟨(h b hb).1, fun j => ⟨((h b hb).2 j).1, ((h b hb).2 j).2.1, by rw [rR_n (Or.inl (by omega))]; exact ((h b hb).2 j).2.2⟩⟩
theorem Ag.rfl' (y : Nat) (μ : ax_M) : Ag y μ μ := fun _ _ => ⟨rfl, fun _ => ⟨rfl, rfl, rfl⟩⟩
theorem Ag.tr {μ1 μ2 : ax_M} (h : Ag y μ0 μ1) (k : Ag y μ1 μ2) : Ag y μ0 μ2 := fun b hb => ⟨(k b hb).1.trans (h b hb).1, fun j => ⟨((k b hb).2 j).1.trans ((h b hb).2 j).1, ((k b hb).2 j).2.1.trans ((h b hb).2 j).2.1, ((k b hb).2 j).2.2.trans ((h b hb).2 j).2.2⟩⟩
theorem Ag.w (h : Ag y μ0 μ) (hy : y ≤ mN μ) (ha : y ≤ a) : Ag y μ0 (sR (nC μ k z) a i v) := Ag.w0 (h.tr ((Ag.new μ k z).sub hy)) ha
theorem Ag.wg (h : Ag y μ0 μ) (hy : y ≤ mN μ) (ha : y ≤ a) : Ag y μ0 (sR (nG μ n z) a i v) := Ag.w0 (h.tr ((Ag.grid μ n z).sub hy)) ha
theorem Sm.w {lo hi : Nat} (h : hi ≤ mN μ) (ha : a < lo ∨ hi ≤ a) : Sm lo hi μ (sR (nC μ k z) a i v) := Sm.trans (Ag.sm (Ag.new μ k z) h) (Sm.st ha)
theorem wK {b : Nat} (h : b ≠ mN μ) : mK (sR (nC μ k z) a i v) b = mK μ b := by rw [kR, nCK h]
theorem wZ {b : Nat} (h : b ≠ mN μ) : mZ (sR (nC μ k z) a i v) b = mZ μ b := by rw [zR, nCZ h]
theorem wR {b j : Nat} (h : b ≠ mN μ) (h' : b ≠ a ∨ j ≠ i) : gR (sR (nC μ k z) a i v) b j = gR μ b j := by rw [rR_n h', nCR h]
end W0
section CV
variable {l : Launch} {G : ax_G} {μ : ax_M} {K : ax_M → Prop}
theorem d37 {y c L : Nat} (hy : 64 ≤ y) (hf : Fresh μ y 7) (q : ∀ μ', mN μ' = y + 7 → Ag y μ μ' → isTally μ' y c → K μ') : ax_CV l G 37 [ax_r (some y), ax_r (some c), ax_r (some L)] μ K := by
  have hN : mN μ = y + 1 := hf.1
  refine ax_Ct.of (by decide) (Nat.le_of_ble_eq_true rfl) (sg37_0 l G _ y c L _ ?_)
  refine ⟨hy, ax_s_multi (N := 3) (K := 12) (by decide +kernel) ax_l37 (by decide) (by decide) rfl rfl (by decide) (by decide) (by decide) (by decide) ?_⟩
  refine sg37_12 l G _ y c L (some y) _ _ _ _ (wr_c rfl ⟨⟨hy, by rw [(Ag.grid μ _ _).K (by omega)]; exact hf.K⟩, ?_⟩)
  have a1 : mN (sR (nG μ 3 12) y 0 (some (mN μ))) = y + 5 := by show mN μ + 1 + 3 = _; omega
  have b1 : Ag y μ (sR (nG μ 3 12) y 0 (some (mN μ))) := Ag.wg (Ag.rfl' y μ) (by omega) (Nat.le_refl _)
  have k1 : mK (sR (nG μ 3 12) y 0 (some (mN μ))) y = 7 := by rw [kR, (Ag.grid μ _ _).K (by omega)]; exact hf.K
  have r1 : gR (sR (nG μ 3 12) y 0 (some (mN μ))) y 0 = some (y + 1) := by rw [rR_s, hN]
  have g1 : isGrid (sR (nG μ 3 12) y 0 (some (mN μ))) (some (y + 1)) (y + 1) 3 12 := by
    refine ⟨rfl, by omega, by rw [kR, gGK, if_pos hN.symm], by rw [zR, gGZ, if_pos hN.symm], fun t ht => ⟨?_, ?_, ?_⟩, by omega, by omega⟩
    · rw [rR_n (Or.inl (by omega)), gGR, if_pos hN.symm, if_pos ht, hN]
    · rw [kR, gGK, if_neg (by omega), if_pos (by omega)]
    · rw [zR, gGZ, if_neg (by omega), if_pos (by omega)]
  generalize sR (nG μ 3 12) y 0 (some (mN μ)) = μ1 at a1 b1 k1 r1 g1 ⊢
  refine sg37_15 l G _ y c L _ _ _ ?_
  rw [show Int32.toNatClampNeg 8 = 8 from rfl]
  refine ⟨⟨by decide, by decide⟩, ax_gd.mk (by decide) (by decide) ⟨⟨hy, by rw [nCK (by omega)]; exact k1⟩, ?_⟩⟩
  have a2 : mN (sR (nC μ1 22 8) y 1 (some (mN μ1))) = y + 6 := by show mN μ1 + 1 = _; omega
  have b2 : Ag y μ (sR (nC μ1 22 8) y 1 (some (mN μ1))) := b1.w (by omega) (Nat.le_refl _)
  have k2 : mK (sR (nC μ1 22 8) y 1 (some (mN μ1))) y = 7 := by rw [wK (by omega)]; exact k1
  have r2 : gR (sR (nC μ1 22 8) y 1 (some (mN μ1))) y 0 = some (y + 1) := by rw [wR (by omega) (by omega)]; exact r1
  have r2' : gR (sR (nC μ1 22 8) y 1 (some (mN μ1))) y 1 = some (y + 5) := by rw [rR_s, a1]
  have g2 : isGrid (sR (nC μ1 22 8) y 1 (some (mN μ1))) (some (y + 1)) (y + 1) 3 12 := g1.sm (Sm.w (by omega) (by omega))
  have x2 : mK (sR (nC μ1 22 8) y 1 (some (mN μ1))) (y + 5) = 22 ∧ mZ (sR (nC μ1 22 8) y 1 (some (mN μ1))) (y + 5) = 8 := by rw [← a1]; exact ⟨nCk _ _ _, nCz _ _ _⟩
  generalize sR (nC μ1 22 8) y 1 (some (mN μ1)) = μ2 at a2 b2 k2 r2 r2' g2 x2 ⊢
  refine sg37_23 l G _ y c L _ _ _ ?_
  rw [show Int32.toNatClampNeg 8 = 8 from rfl]
  refine ⟨⟨by decide, by decide⟩, ax_gd.mk (by decide) (by decide) ⟨⟨hy, by rw [nCK (by omega)]; exact k2⟩, ?_⟩⟩
  have a3 : mN (sR (nC μ2 22 8) y 2 (some (mN μ2))) = y + 7 := by show mN μ2 + 1 = _; omega
  have b3 : Ag y μ (sR (nC μ2 22 8) y 2 (some (mN μ2))) := b2.w (by omega) (Nat.le_refl _)
  have k3 : mK (sR (nC μ2 22 8) y 2 (some (mN μ2))) y = 7 := by rw [wK (by omega)]; exact k2
  have r3 : gR (sR (nC μ2 22 8) y 2 (some (mN μ2))) y 0 = some (y + 1) := by rw [wR (by omega) (by omega)]; exact r2
  have r3' : gR (sR (nC μ2 22 8) y 2 (some (mN μ2))) y 1 = some (y + 5) := by rw [wR (by omega) (by omega)]; exact r2'
  have r3'' : gR (sR (nC μ2 22 8) y 2 (some (mN μ2))) y 2 = some (y + 6) := by rw [rR_s, a2]
  have g3 : isGrid (sR (nC μ2 22 8) y 2 (some (mN μ2))) (some (y + 1)) (y + 1) 3 12 := g2.sm (Sm.w (by omega) (by omega))
  have x3 : mK (sR (nC μ2 22 8) y 2 (some (mN μ2))) (y + 5) = 22 ∧ mZ (sR (nC μ2 22 8) y 2 (some (mN μ2))) (y + 5) = 8 := by rw [wK (by omega), wZ (by omega)]; exact x2
  have x3' : mK (sR (nC μ2 22 8) y 2 (some (mN μ2))) (y + 6) = 22 ∧ mZ (sR (nC μ2 22 8) y 2 (some (mN μ2))) (y + 6) = 8 := by rw [← a2]; exact ⟨nCk _ _ _, nCz _ _ _⟩
  generalize sR (nC μ2 22 8) y 2 (some (mN μ2)) = μ3 at a3 b3 k3 r3 r3' r3'' g3 x3 x3' ⊢
  refine sg37_31 l G _ y c L _ _ _ ?_
  refine ⟨⟨hy, k3⟩, ?_⟩
  refine sg37_36 l G _ y L _ _ _ ?_
  refine ⟨⟨hy, k3⟩, ?_⟩
  refine sg37_41 l G _ _ _ _ ?_
  have g4 := g3.sm (Sm.trans (Sm.st (μ := μ3) (a := y) (k := 3) (v := some c) (Or.inl (by omega))) (Sm.st (a := y) (k := 4) (v := some L) (Or.inl (by omega))))
  refine ax_gd.mk (by decide) (by decide) ⟨rfl, q _ a3 (Ag.w0 (Ag.w0 b3 (Nat.le_refl _)) (Nat.le_refl _)) ⟨⟨hy, k3, ?_, ?_, ?_, ?_, g4.2.2.1, g4.2.2.2.1, x3.1, x3.2, x3'.1, x3'.2⟩, fun o ho => ?_⟩⟩
  · rw [rR_n (by omega), rR_n (by omega)]; exact r3
  · rw [rR_n (by omega), rR_n (by omega)]; exact r3'
  · rw [rR_n (by omega), rR_n (by omega)]; exact r3''
  · rw [rR_n (by omega), rR_s]
  · have t := g4.2.2.2.2.1 o ho
    rw [show y + 2 + o = y + 1 + 1 + o by omega]
    exact t
theorem d99 {L : Nat} (hf : Fresh μ 150 6) (q : ∀ μ', mN μ' = 156 → Ag 150 μ μ' → isReader μ' → K μ') : ax_CV l G 99 [ax_r (some 150), ax_r (some 65), ax_r (some L)] μ K := by
  obtain ⟨n, kz, gi, gl, gr⟩ := μ
  obtain ⟨hN0, hk0, -, -⟩ := hf
  have hN : n = 151 := hN0
  have hk1 : (kz 150).1 = 6 := by
    have h : kz 150 = (6, 0) := hk0
    rw [h]
  clear hN0 hk0
  subst hN
  refine ax_Ct.of (by decide) (Nat.le_of_ble_eq_true rfl) (sg99_0 l G _ 150 65 L _ ?_)
  refine ⟨by omega, Nat.le_of_ble_eq_true rfl, d26 (Nat.le_of_ble_eq_true rfl) rfl rfl ?_⟩
  refine ⟨⟨by omega, hk1⟩, ?_⟩
  refine sg99_15 l G _ 150 65 L _ _ _ ?_
  refine ax_gd.mk (Nat.le_of_ble_eq_true rfl) (Nat.le_of_ble_eq_true rfl) ⟨Nat.le_of_ble_eq_true rfl, ax_gd.mk (Nat.le_of_ble_eq_true rfl) (Nat.le_of_ble_eq_true rfl) (d43 (Nat.le_of_ble_eq_true rfl) rfl ⟨⟨by omega, hk1⟩, ?_⟩)⟩
  refine sg99_27 l G _ 150 L _ _ _ ?_
  refine ⟨⟨by omega, hk1⟩, ?_⟩
  refine sg99_32 l G _ _ _ _ ?_
  refine ax_gd.mk (Nat.le_of_ble_eq_true rfl) (Nat.le_of_ble_eq_true rfl) ⟨rfl, q _ rfl ?_ ⟨hk1, rfl, rfl, rfl, rfl, rfl, rfl, rfl, rfl, rfl, rfl, rfl, rfl, rfl, rfl⟩⟩
  refine Ag.w0 (Ag.w0 (Ag.w0 ?_ (Nat.le_of_ble_eq_true rfl)) (Nat.le_of_ble_eq_true rfl)) (Nat.le_of_ble_eq_true rfl)
  refine Ag.tr (Ag.w0 ?_ (Nat.le_of_ble_eq_true rfl)) ((Ag.new _ 9 0).sub (Nat.le_of_ble_eq_true rfl))
  refine Ag.w (Ag.w (Ag.w ((Ag.new _ 4 0).sub (Nat.le_of_ble_eq_true rfl)) (Nat.le_of_ble_eq_true rfl) (Nat.le_of_ble_eq_true rfl)) (Nat.le_of_ble_eq_true rfl) (Nat.le_of_ble_eq_true rfl)) (Nat.le_of_ble_eq_true rfl) (Nat.le_of_ble_eq_true rfl)
end CV
