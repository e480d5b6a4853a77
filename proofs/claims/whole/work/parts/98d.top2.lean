/-! the class's constructor -/
theorem tstep {μ m1 : ax_M} {B i k : Nat} (hN : mN μ = B) (hB : 65 ≤ B) (h : Ag B (nC μ k 0) m1) : Sm 65 B μ (sR m1 64 i (some B)) ∧ (∀ j, j ≠ i → gR (sR m1 64 i (some B)) 64 j = gR μ 64 j) ∧ gR (sR m1 64 i (some B)) 64 i = some B ∧ (∀ j, gI (sR m1 64 i (some B)) 64 j = gI μ 64 j) ∧ mK (sR m1 64 i (some B)) 64 = mK μ 64 ∧ Ag 64 μ (sR m1 64 i (some B)) := by
  have a : Ag B μ m1 := Ag.tr (by rw [← hN]; exact Ag.new μ k 0) h
  exact ⟨Sm.trans (Ag.sm a (Nat.le_refl _)) (Sm.st (Or.inl (by omega))), fun j hj => by rw [rR_n (Or.inr hj)]; exact a.R (by omega), rR_s _ _ _ _, fun j => a.I (by omega), by rw [kR]; exact a.K (by omega), Ag.w0 (a.sub (by omega)) (Nat.le_refl _)⟩
section CW
variable {l : Launch} {G : ax_G} {μ : ax_M} {K : ax_M → Prop}
theorem d125 (hf : Fresh μ 64 10) (q : ∀ μ', mN μ' = 332 → Ag 64 μ μ' → XS μ' 66 108 → (∀ j, gI μ' 64 j = 0) → (∀ j, gI μ' 66 j = 0) → K μ') : ax_CV l G 125 [ax_r (some 64)] μ K := by
  have hN : mN μ = 65 := hf.1
  refine ax_Ct.of (by decide) (Nat.le_of_ble_eq_true rfl) (sg125_0 l G _ 64 _ ?_)
  rw [show Int32.toNatClampNeg 900 = 900 from rfl, hN]
  refine ⟨by decide, ⟨by decide, by decide⟩, ax_gd.mk (by decide) (by decide) ⟨⟨by decide, by rw [nCK (by omega)]; exact hf.K⟩, ?_⟩⟩
  have a0 : mN (sR (nC μ 21 900) 64 0 (some 65)) = 66 := by show mN μ + 1 = _; omega
  have b0 : Ag 64 μ (sR (nC μ 21 900) 64 0 (some 65)) := Ag.w (Ag.rfl' 64 μ) (by omega) (by omega)
  have k0 : mK (sR (nC μ 21 900) 64 0 (some 65)) 64 = 10 := by rw [wK (by omega)]; exact hf.K
  have i0 : ∀ j, gI (sR (nC μ 21 900) 64 0 (some 65)) 64 j = 0 := fun j => by rw [iR, nCI (by omega)]; exact hf.2.2.1 j
  have r0 : gR (sR (nC μ 21 900) 64 0 (some 65)) 64 0 = some 65 := rR_s _ _ _ _
  have t0 : mK (sR (nC μ 21 900) 64 0 (some 65)) 65 = 21 ∧ mZ (sR (nC μ 21 900) 64 0 (some 65)) 65 = 900 := by rw [← hN]; exact ⟨nCk _ _ _, nCz _ _ _⟩
  generalize sR (nC μ 21 900) 64 0 (some 65) = μ0 at a0 b0 k0 i0 r0 t0 ⊢
  refine sg125_13 l G _ 64 _ _ _ ?_
  rw [a0]
  have f1 := Fresh.of μ0 3
  rw [a0] at f1
  refine ax_gd.mk (by decide) (by decide) ⟨by decide, ax_gd.mk (by decide) (by decide) (d98 (by decide) f1 (fun m1 v1 => ?_))⟩
  obtain ⟨s1, o1, p1, j1, e1, c1⟩ := tstep (i := 1) a0 (by omega) v1.2.1
  have l1 : isLand (sR m1 64 1 (some 66)) 66 := (v1.land (by omega)).sm (Sm.st (Or.inl (by omega)))
  have z1 : ∀ j, gI (sR m1 64 1 (some 66)) 66 j = 0 := fun j => ((v1.2.2 0 (by omega)).2 j).1
  have a1 : mN (sR m1 64 1 (some 66)) = 108 := v1.1
  refine ⟨⟨by decide, e1.trans k0⟩, ?_⟩
  generalize sR m1 64 1 (some 66) = μ1 at s1 o1 p1 j1 e1 c1 l1 z1 a1 ⊢
  refine sg125_24 l G _ 64 _ _ _ ?_
  rw [a1]
  have f2 := Fresh.of μ1 3
  rw [a1] at f2
  refine ax_gd.mk (by decide) (by decide) ⟨by decide, ax_gd.mk (by decide) (by decide) (d98 (by decide) f2 (fun m2 v2 => ?_))⟩
  obtain ⟨s2, o2, p2, j2, e2, c2⟩ := tstep (i := 2) a1 (by omega) v2.2.1
  have l2 : isLand (sR m2 64 2 (some 108)) 108 := (v2.land (by omega)).sm (Sm.st (Or.inl (by omega)))
  have a2 : mN (sR m2 64 2 (some 108)) = 150 := v2.1
  refine ⟨⟨by decide, e2.trans (e1.trans k0)⟩, ?_⟩
  generalize sR m2 64 2 (some 108) = μ2 at s2 o2 p2 j2 e2 c2 l2 a2 ⊢
  refine sg125_35 l G _ 64 _ _ _ ?_
  have k2 : mK μ2 64 = 10 := e2.trans (e1.trans k0)
  have kn : mK (nC μ2 6 0) 64 = 10 := by rw [nCK (by omega)]; exact k2
  have f3 := Fresh.of μ2 6
  rw [a2] at f3
  refine ax_gd.mk (by decide) (by decide) ⟨kn, kn, by omega, ax_gd.mk (by decide) (by decide) ?_⟩
  rw [nCR (by omega), nCR (by omega), p2, (o2 0 (by omega)).trans ((o1 0 (by omega)).trans r0), a2]
  refine d99 f3 (fun m3 n3 g3 rd3 => ?_)
  obtain ⟨s3, o3, p3, j3, e3, c3⟩ := tstep (i := 3) a2 (by omega) g3
  have l3 : isReader (sR m3 64 3 (some 150)) := rd3.sm (Sm.st (Or.inl (by omega)))
  have a3 : mN (sR m3 64 3 (some 150)) = 156 := n3
  have k3 := e3.trans k2
  refine ⟨⟨by decide, k3⟩, ?_⟩
  generalize sR m3 64 3 (some 150) = μ3 at s3 o3 p3 j3 e3 c3 l3 a3 k3 ⊢
  refine sg125_54 l G _ 64 _ _ _ ?_
  have kn : mK (nC μ3 1 0) 64 = 10 := by rw [nCK (by omega)]; exact k3
  have f4 := Fresh.of μ3 1
  rw [a3] at f4
  refine ax_gd.mk (by decide) (by decide) ⟨kn, by omega, ax_gd.mk (by decide) (by decide) ?_⟩
  have q1' : gR μ3 64 1 = some 66 := (o3 1 (by omega)).trans ((o2 1 (by omega)).trans p1)
  rw [nCR (by omega), q1', a3]
  refine d12 (by decide) f4 (fun m4 n4 g4 cr4 lr4 => ?_)
  obtain ⟨s4, o4, p4, j4, e4, c4⟩ := tstep (i := 4) a3 (by omega) g4
  have l4 : isCourse (sR m4 64 4 (some 156)) 156 := cr4.sm (Sm.st (Or.inl (by omega)))
  have a4 : mN (sR m4 64 4 (some 156)) = 237 := n4
  have k4 := e4.trans k3
  refine ⟨⟨by decide, k4⟩, ?_⟩
  generalize sR m4 64 4 (some 156) = μ4 at s4 o4 p4 j4 e4 c4 l4 a4 k4 ⊢
  refine sg125_69 l G _ 64 _ _ _ ?_
  have kn : mK (nC μ4 7 0) 64 = 10 := by rw [nCK (by omega)]; exact k4
  have f5 := Fresh.of μ4 7
  rw [a4] at f5
  refine ax_gd.mk (by decide) (by decide) ⟨kn, kn, by omega, ax_gd.mk (by decide) (by decide) ?_⟩
  have q2' : gR μ4 64 1 = some 66 := (o4 1 (by omega)).trans q1'
  rw [nCR (by omega), nCR (by omega), p4, q2', a4]
  refine d37 (by decide) f5 (fun m5 n5 g5 ty5 => ?_)
  obtain ⟨s5, o5, p5, j5, e5, c5⟩ := tstep (i := 5) a4 (by omega) g5
  have l5 : isTally (sR m5 64 5 (some 237)) 237 156 := ty5.sm (Sm.st (Or.inl (by omega)))
  have a5 : mN (sR m5 64 5 (some 237)) = 244 := n5
  have k5 := e5.trans k4
  refine ⟨⟨by decide, k5⟩, ?_⟩
  generalize sR m5 64 5 (some 237) = μ5 at s5 o5 p5 j5 e5 c5 l5 a5 k5 ⊢
  refine sg125_88 l G _ 64 _ _ _ ?_
  have kn : mK (nC μ5 1 0) 64 = 10 := by rw [nCK (by omega)]; exact k5
  have f6 := Fresh.of μ5 1
  rw [a5] at f6
  refine ax_gd.mk (by decide) (by decide) ⟨kn, by omega, ax_gd.mk (by decide) (by decide) ?_⟩
  have q3' : gR μ5 64 1 = some 66 := (o5 1 (by omega)).trans q2'
  rw [nCR (by omega), q3', a5]
  refine d12 (by decide) f6 (fun m6 n6 g6 cr6 lr6 => ?_)
  obtain ⟨s6, o6, p6, j6, e6, c6⟩ := tstep (i := 6) a5 (by omega) g6
  have l6 : isCourse (sR m6 64 6 (some 244)) 244 := cr6.sm (Sm.st (Or.inl (by omega)))
  have a6 : mN (sR m6 64 6 (some 244)) = 325 := n6
  have k6 := e6.trans k5
  refine ⟨⟨by decide, k6⟩, ?_⟩
  generalize sR m6 64 6 (some 244) = μ6 at s6 o6 p6 j6 e6 c6 l6 a6 k6 ⊢
  refine sg125_103 l G _ 64 _ _ _ ?_
  have kn : mK (nC μ6 7 0) 64 = 10 := by rw [nCK (by omega)]; exact k6
  have f7 := Fresh.of μ6 7
  rw [a6] at f7
  refine ax_gd.mk (by decide) (by decide) ⟨kn, kn, by omega, ax_gd.mk (by decide) (by decide) ?_⟩
  have q4' : gR μ6 64 1 = some 66 := (o6 1 (by omega)).trans q3'
  rw [nCR (by omega), nCR (by omega), p6, q4', a6]
  refine d37 (by decide) f7 (fun m7 n7 g7 ty7 => ?_)
  obtain ⟨s7, o7, p7, j7, e7, c7⟩ := tstep (i := 7) a6 (by omega) g7
  have l7 : isTally (sR m7 64 7 (some 325)) 325 244 := ty7.sm (Sm.st (Or.inl (by omega)))
  have a7 : mN (sR m7 64 7 (some 325)) = 332 := n7
  have k7 := e7.trans k6
  refine ⟨⟨by decide, k7⟩, ?_⟩
  generalize sR m7 64 7 (some 325) = μ7 at s7 o7 p7 j7 e7 c7 l7 a7 k7 ⊢
  refine sg125_122 l G _ _ _ _ ?_
  have S2 : Sm 65 108 μ1 μ7 := (s2.trans (s3.sub (by omega) (by omega))).trans ((s4.sub (by omega) (by omega)).trans ((s5.sub (by omega) (by omega)).trans ((s6.sub (by omega) (by omega)).trans (s7.sub (by omega) (by omega)))))
  have S3 : Sm 65 150 μ2 μ7 := s3.trans ((s4.sub (by omega) (by omega)).trans ((s5.sub (by omega) (by omega)).trans ((s6.sub (by omega) (by omega)).trans (s7.sub (by omega) (by omega)))))
  have S4 : Sm 65 156 μ3 μ7 := s4.trans ((s5.sub (by omega) (by omega)).trans ((s6.sub (by omega) (by omega)).trans (s7.sub (by omega) (by omega))))
  have S5 : Sm 65 237 μ4 μ7 := s5.trans ((s6.sub (by omega) (by omega)).trans (s7.sub (by omega) (by omega)))
  have S6 : Sm 65 244 μ5 μ7 := s6.trans (s7.sub (by omega) (by omega))
  have S1 : Sm 65 66 μ0 μ7 := s1.trans (S2.sub (by omega) (by omega))
  refine ax_gd.mk (by decide) (by decide) ⟨rfl, q μ7 a7 (((b0.tr c1).tr c2).tr (((c3.tr c4).tr (c5.tr c6)).tr c7)) ⟨⟨k7, ?_, ?_, ?_, ?_, ?_, ?_, ?_, p7, ?_, ?_⟩, Or.inl ⟨rfl, rfl⟩, l3.sm (S4.sub (by omega) (by omega)), l1.sm (S2.sub (by omega) (by omega)), l2.sm (S3.sub (by omega) (by omega)), l4.sm (S5.sub (by omega) (by omega)), l5.sm (S6.sub (by omega) (by omega)), l6.sm (s7.sub (by omega) (by omega)), l7⟩ (fun j => ?_) (fun j => ?_)⟩
  · rw [o7 0 (by omega), o6 0 (by omega), o5 0 (by omega), o4 0 (by omega), o3 0 (by omega), o2 0 (by omega), o1 0 (by omega)]; exact r0
  · rw [o7 1 (by omega)]; exact q4'
  · rw [o7 2 (by omega), o6 2 (by omega), o5 2 (by omega), o4 2 (by omega), o3 2 (by omega)]; exact p2
  · rw [o7 3 (by omega), o6 3 (by omega), o5 3 (by omega), o4 3 (by omega)]; exact p3
  · rw [o7 4 (by omega), o6 4 (by omega), o5 4 (by omega)]; exact p4
  · rw [o7 5 (by omega), o6 5 (by omega)]; exact p5
  · rw [o7 6 (by omega)]; exact p6
  · rw [S1.K (by omega) (by omega)]; exact t0.1
  · rw [S1.Z (by omega) (by omega)]; exact t0.2
  · rw [j7, j6, j5, j4, j3, j2, j1]; exact i0 j
  · rw [S2.I (by omega) (by omega)]; exact z1 j
end CW
/-! the model's constructor -/
section CX
variable {l : Launch} {G : ax_G} {μ : ax_M} {K : ax_M → Prop}
theorem d47 (hf : Fresh μ 332 12) (q : ∀ μ', mN μ' = 340 → Ag 332 μ μ' → isMo μ' → gI μ' 332 2 = -1 → (∀ j, j ≠ 2 → gI μ' 332 j = 0) → (∀ j, j < 5 → gR μ' 332 j = none) → K μ') : ax_CV l G 47 [ax_r (some 332)] μ K := by
  obtain ⟨n, kz, gi, gl, gr⟩ := μ
  obtain ⟨hN0, hk0, hi0, hr0⟩ := hf
  have hN : n = 333 := hN0
  have hk1 : (kz 332).1 = 12 := by
    have h : kz 332 = (12, 0) := hk0
    rw [h]
  have hi : ∀ j, gi 332 j = 0 := hi0
  have hr : ∀ j, gr 332 j = none := hr0
  clear hN0 hk0 hi0 hr0
  subst hN
  refine ax_Ct.of (by decide) (Nat.le_of_ble_eq_true rfl) (sg47_0 l G _ 332 _ ?_)
  refine ⟨by decide, ⟨by decide, hk1⟩, ?_⟩
  refine sg47_9 l G _ 332 _ _ _ ?_
  refine ⟨⟨by decide, by decide⟩, ax_gd.mk (by decide) (by decide) ⟨⟨by decide, hk1⟩, ?_⟩⟩
  refine sg47_18 l G _ 332 _ _ _ ?_
  refine ⟨⟨by decide, by decide⟩, ax_gd.mk (by decide) (by decide) ⟨⟨by decide, hk1⟩, ?_⟩⟩
  refine sg47_26 l G _ 332 _ _ _ ?_
  refine ⟨⟨by decide, by decide⟩, ax_gd.mk (by decide) (by decide) ⟨⟨by decide, hk1⟩, ?_⟩⟩
  refine sg47_34 l G _ 332 _ _ _ ?_
  refine ⟨⟨by decide, by decide⟩, ax_gd.mk (by decide) (by decide) ⟨⟨by decide, hk1⟩, ?_⟩⟩
  refine sg47_42 l G _ 332 _ _ _ ?_
  refine ⟨⟨by decide, by decide⟩, ax_gd.mk (by decide) (by decide) ⟨⟨by decide, hk1⟩, ?_⟩⟩
  refine sg47_50 l G _ 332 _ _ _ ?_
  refine ⟨⟨by decide, by decide⟩, ax_gd.mk (by decide) (by decide) ⟨⟨by decide, hk1⟩, ?_⟩⟩
  refine sg47_59 l G _ 332 _ _ _ ?_
  refine ⟨⟨by decide, by decide⟩, ax_gd.mk (by decide) (by decide) ⟨⟨by decide, hk1⟩, ?_⟩⟩
  refine sg47_68 l G _ _ _ _ ?_
  refine ax_gd.mk (by decide) (by decide) ⟨rfl, q _ rfl ?_ ⟨hk1, rfl, rfl, rfl, rfl, rfl, rfl, rfl, rfl, rfl, rfl, rfl, rfl, rfl, rfl, rfl, rfl, rfl, rfl, rfl, rfl, rfl⟩ rfl (fun j hj => ?_) (fun j hj => ?_)⟩
  · refine Ag.w (Ag.w (Ag.w (Ag.w (Ag.w (Ag.w (Ag.w ?_ (Nat.le_of_ble_eq_true rfl) (Nat.le_of_ble_eq_true rfl)) (Nat.le_of_ble_eq_true rfl) (Nat.le_of_ble_eq_true rfl)) (Nat.le_of_ble_eq_true rfl) (Nat.le_of_ble_eq_true rfl)) (Nat.le_of_ble_eq_true rfl) (Nat.le_of_ble_eq_true rfl)) (Nat.le_of_ble_eq_true rfl) (Nat.le_of_ble_eq_true rfl)) (Nat.le_of_ble_eq_true rfl) (Nat.le_of_ble_eq_true rfl)) (Nat.le_of_ble_eq_true rfl) (Nat.le_of_ble_eq_true rfl)
    exact fun b hb => ⟨rfl, fun j => ⟨by rw [iI, if_neg (by omega)], rfl, rfl⟩⟩
  · show (if 332 = 332 ∧ j = 2 then (-1 : Int32) else gi 332 j) = 0
    rw [if_neg (by omega)]
    exact hi j
  · iterate 7 rw [wR (Nat.ne_of_beq_eq_false rfl) (by omega)]
    exact hr j
end CX
