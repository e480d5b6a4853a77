/-! the land's constructor: its loops -/
section CL
variable {l : Launch} {G : ax_G} {μ0 : ax_M} {K : ax_M → Prop} {L : Nat}
theorem lp98a (hL : 64 ≤ L) (n : Nat) : ∀ (i cl sl : Nat) (μ : ax_M), i + n = 8 → cl = 4 + i → sl = 34 + 4 * i → Iv ldT ldR μ0 μ L (5 + i) → (∀ μ', Iv ldT ldR μ0 μ' L 13 → (ax_Rw l G ax_h98 (ax_E G ax_h98 (fun x μ' => x = none ∧ K μ')) 67 [(0, ax_r (some L)), (1, ax_i 0)] [] (12) (66) (μ'))) → (ax_Rw l G ax_h98 (ax_E G ax_h98 (fun x μ' => x = none ∧ K μ')) 40 [(0, ax_r (some L)), (1, ax_i (nI i))] [] (cl) (sl) μ) := by
  induction n with
  | zero =>
    intro i cl sl μ hi hc hs h q
    have e : i = 8 := by omega
    subst e
    subst hc
    subst hs
    refine sg98_40 l G _ L (nI 8) _ _ μ ?_
    rw [br_F (show ¬ nI 8 < 8 by decide +kernel)]
    exact q _ h
  | succ n ih =>
    intro i cl sl μ hi hc hs h q
    have hN : mN μ = L + (5 + i) := h.1
    have k0 : mK μ L = 3 := h.K (o := 0) (by omega) rfl
    have kg : mK μ (L + 1) = 27 := h.K (o := 1) (by omega) rfl
    have zg : mZ μ (L + 1) = 8 := h.Z (o := 1) (by omega) rfl
    have rg : gR μ L 0 = some (L + 1) := h.ref (o := 0) (by omega) (ldR_0 (by omega)) (by omega)
    refine sg98_40 l G _ L (nI i) _ _ μ (br_lt i 8 rfl (by decide +kernel) (by omega) (by omega) (fun hi' => ?_) (fun hi' => absurd hi' (by omega)))
    refine ⟨k0, ax_gd.mk (by omega) (by omega) ⟨by omega, ax_gd.mk (by omega) (by omega) (d42 (by omega) (wr_c rg ⟨⟨by omega, by rw [nCK (by omega)]; exact kg, by rw [nCZ (by omega)]; exact in_c zg hi' (by omega), by omega, nCk _ _ _⟩, ?_⟩))⟩⟩
    rw [clN (by omega)]
    refine sg98_59 l G _ L _ _ _ _ ?_
    rw [show nI i + 1 = nI (i + 1) by rw [q1, nI_add]]
    exact ih (i + 1) _ _ _ (by omega) (by omega) (by omega) (h.lst (ldT_t hi') (by omega) (ldR_1 hi')) q
theorem lp98b (hL : 64 ≤ L) (n : Nat) : ∀ (i cl sl : Nat) (μ : ax_M), i + n = 20 → cl = 12 + i → sl = 66 + 4 * i → Iv ldT ldR μ0 μ L (13 + i) → (∀ μ', Iv ldT ldR μ0 μ' L 33 → (ax_Rw l G ax_h98 (ax_E G ax_h98 (fun x μ' => x = none ∧ K μ')) 94 [(0, ax_r (some L)), (1, ax_i 0)] [] (32) (146) (μ'))) → (ax_Rw l G ax_h98 (ax_E G ax_h98 (fun x μ' => x = none ∧ K μ')) 67 [(0, ax_r (some L)), (1, ax_i (nI i))] [] (cl) (sl) μ) := by
  induction n with
  | zero =>
    intro i cl sl μ hi hc hs h q
    have e : i = 20 := by omega
    subst e
    subst hc
    subst hs
    refine sg98_67 l G _ L (nI 20) _ _ μ ?_
    rw [br_F (show ¬ nI 20 < 20 by decide +kernel)]
    exact q _ h
  | succ n ih =>
    intro i cl sl μ hi hc hs h q
    have hN : mN μ = L + (13 + i) := h.1
    have k0 : mK μ L = 3 := h.K (o := 0) (by omega) rfl
    have kg : mK μ (L + 2) = 24 := h.K (o := 2) (by omega) rfl
    have zg : mZ μ (L + 2) = 20 := h.Z (o := 2) (by omega) rfl
    have rg : gR μ L 1 = some (L + 2) := h.ref (o := 0) (by omega) (ldR_0 (by omega)) (by omega)
    refine sg98_67 l G _ L (nI i) _ _ μ (br_lt i 20 rfl (by decide +kernel) (by omega) (by omega) (fun hi' => ?_) (fun hi' => absurd hi' (by omega)))
    refine ⟨k0, ax_gd.mk (by omega) (by omega) ⟨by omega, ax_gd.mk (by omega) (by omega) (d11 (by omega) (wr_c rg ⟨⟨by omega, by rw [nCK (by omega)]; exact kg, by rw [nCZ (by omega)]; exact in_c zg hi' (by omega), by omega, nCk _ _ _⟩, ?_⟩))⟩⟩
    rw [clN (by omega)]
    refine sg98_86 l G _ L _ _ _ _ ?_
    rw [show nI i + 1 = nI (i + 1) by rw [q1, nI_add]]
    exact ih (i + 1) _ _ _ (by omega) (by omega) (by omega) (h.lst (ldT_c hi') (by omega) (ldR_2 hi')) q
theorem lp98c (hL : 64 ≤ L) (n : Nat) : ∀ (i cl sl : Nat) (μ : ax_M), i + n = 3 → cl = 32 + 2 * i → sl = 146 + 7 * i → Iv ldT ldR μ0 μ L (33 + 2 * i) → (∀ μ', Iv ldT ldR μ0 μ' L 39 → (ax_Rw l G ax_h98 (ax_E G ax_h98 (fun x μ' => x = none ∧ K μ')) 120 [(0, ax_r (some L)), (1, ax_i 0)] [] (38) (167) (μ'))) → (ax_Rw l G ax_h98 (ax_E G ax_h98 (fun x μ' => x = none ∧ K μ')) 94 [(0, ax_r (some L)), (1, ax_i (nI i))] [] (cl) (sl) μ) := by
  induction n with
  | zero =>
    intro i cl sl μ hi hc hs h q
    have e : i = 3 := by omega
    subst e
    subst hc
    subst hs
    refine sg98_94 l G _ L (nI 3) _ _ μ ?_
    rw [br_F (show ¬ nI 3 < 3 by decide +kernel)]
    exact q _ h
  | succ n ih =>
    intro i cl sl μ hi hc hs h q
    have hN : mN μ = L + (33 + 2 * i) := h.1
    have k0 : mK μ L = 3 := h.K (o := 0) (by omega) rfl
    have kg : mK μ (L + 3) = 25 := h.K (o := 3) (by omega) rfl
    have zg : mZ μ (L + 3) = 3 := h.Z (o := 3) (by omega) rfl
    have rg : gR μ L 2 = some (L + 3) := h.ref (o := 0) (by omega) (ldR_0 (by omega)) (by omega)
    refine sg98_94 l G _ L (nI i) _ _ μ (br_lt i 3 rfl (by decide +kernel) (by omega) (by omega) (fun hi' => ?_) (fun hi' => absurd hi' (by omega)))
    refine ⟨k0, ax_gd.mk (by omega) (by omega) ⟨by omega, ax_gd.mk (by omega) (by omega) (d15 (by omega) (nCk _ _ _) (by rw [ax_mN_nC]; omega) ?_)⟩⟩
    refine wr_c rg ⟨⟨by omega, by rw [kR, nCK (by rw [ax_mN_nC]; omega), nCK (by omega)]; exact kg, by rw [zR, nCZ (by rw [ax_mN_nC]; omega), nCZ (by omega)]; exact in_c zg hi' (by omega), by omega, by rw [kR, nCK (by rw [ax_mN_nC]; omega), nCk]⟩, ?_⟩
    rw [clN (by omega), sR_sR (by omega), sR_nC (by rw [ax_mN_nC]; omega)]
    have h1 := h.lst (ldT_h hi') (by omega) (ldR_3 hi')
    have e2 : 33 + 2 * i + 1 = 34 + 2 * i := by omega
    have h2 := h1.lst (k := 21) (z := 4) (g := 33 + 2 * i) (i := 0) (by rw [e2]; exact ldT_w hi') (by omega) (by rw [e2]; exact ldR_h hi')
    rw [← hN] at h2
    refine sg98_112 l G _ L _ _ _ _ ?_
    rw [show nI i + 1 = nI (i + 1) by rw [q1, nI_add]]
    exact ih (i + 1) _ _ _ (by omega) (by omega) (by omega) h2 q
theorem lp98d (hL : 64 ≤ L) (n : Nat) : ∀ (i cl sl : Nat) (μ : ax_M), i + n = 3 → cl = 38 + i → sl = 167 + 3 * i → Iv ldT ldR μ0 μ L (39 + i) → (∀ μ', Iv ldT ldR μ0 μ' L 42 → K μ') → (ax_Rw l G ax_h98 (ax_E G ax_h98 (fun x μ' => x = none ∧ K μ')) 120 [(0, ax_r (some L)), (1, ax_i (nI i))] [] (cl) (sl) μ) := by
  induction n with
  | zero =>
    intro i cl sl μ hi hc hs h q
    have e : i = 3 := by omega
    subst e
    subst hc
    subst hs
    refine sg98_120 l G _ L (nI 3) _ _ μ ?_
    rw [br_F (show ¬ nI 3 < 3 by decide +kernel)]
    exact ax_gd.mk (by decide) (by decide) ⟨rfl, q _ h⟩
  | succ n ih =>
    intro i cl sl μ hi hc hs h q
    have hN : mN μ = L + (39 + i) := h.1
    have k0 : mK μ L = 3 := h.K (o := 0) (by omega) rfl
    have kg : mK μ (L + 4) = 26 := h.K (o := 4) (by omega) rfl
    have zg : mZ μ (L + 4) = 3 := h.Z (o := 4) (by omega) rfl
    have rg : gR μ L 3 = some (L + 4) := h.ref (o := 0) (by omega) (ldR_0 (by omega)) (by omega)
    refine sg98_120 l G _ L (nI i) _ _ μ (br_lt i 3 rfl (by decide +kernel) (by omega) (by omega) (fun hi' => ?_) (fun hi' => absurd hi' (by omega)))
    refine ⟨k0, ax_gd.mk (by omega) (by omega) ⟨by omega, ax_gd.mk (by omega) (by omega) (d31 (by omega) (wr_c rg ⟨⟨by omega, by rw [nCK (by omega)]; exact kg, by rw [nCZ (by omega)]; exact in_c zg hi' (by omega), by omega, nCk _ _ _⟩, ?_⟩))⟩⟩
    rw [clN (by omega)]
    refine sg98_138 l G _ L _ _ _ _ ?_
    rw [show nI i + 1 = nI (i + 1) by rw [q1, nI_add]]
    exact ih (i + 1) _ _ _ (by omega) (by omega) (by omega) (h.lst (ldT_o hi') (by omega) (ldR_4 hi')) q
theorem d98 {μ : ax_M} (hL : 64 ≤ L) (hf : Fresh μ L 3) (q : ∀ μ', Iv ldT ldR μ μ' L 42 → K μ') : ax_CV l G 98 [ax_r (some L)] μ K := by
  have h0 : Iv ldT ldR μ μ L 1 := by
    refine ⟨hf.1, fun b _ => ⟨rfl, fun _ => ⟨rfl, rfl, rfl⟩⟩, fun o ho => ?_⟩
    have e : o = 0 := by omega
    subst e
    refine ⟨hf.2.1, fun j => ⟨hf.2.2.1 j, (hf.2.2.2 j).trans ?_⟩⟩
    cases hr : ldR 0 j with
    | none => rfl
    | some r =>
      have := ldR_inv hr
      show none = if r < 1 then _ else none
      rw [if_neg (by omega)]
  have hN := hf.1
  refine ax_Ct.of (by decide) (Nat.le_of_ble_eq_true rfl) (sg98_0 l G _ L _ ?_)
  rw [show Int32.toNatClampNeg 8 = 8 from rfl]
  refine ⟨hL, ⟨by decide, by decide⟩, ax_gd.mk (by decide) (by decide) ⟨⟨hL, by rw [nCK (by omega)]; exact hf.K⟩, ?_⟩⟩
  have h1 := h0.lst (k := 27) (z := 8) (g := 0) (i := 0) rfl (by omega) rfl
  change Iv ldT ldR μ (sR (nC μ 27 8) L 0 (some (mN μ))) L 2 at h1
  generalize sR (nC μ 27 8) L 0 (some (mN μ)) = μ1 at h1 ⊢
  refine sg98_13 l G _ L _ _ _ ?_
  have hN1 : mN μ1 = L + 2 := h1.1
  rw [show Int32.toNatClampNeg 20 = 20 from rfl]
  refine ⟨⟨by decide, by decide⟩, ax_gd.mk (by decide) (by decide) ⟨⟨hL, by rw [nCK (by omega)]; exact h1.K (o := 0) (by omega) rfl⟩, ?_⟩⟩
  have h2 := h1.lst (k := 24) (z := 20) (g := 0) (i := 1) rfl (by omega) rfl
  change Iv ldT ldR μ (sR (nC μ1 24 20) L 1 (some (mN μ1))) L 3 at h2
  generalize sR (nC μ1 24 20) L 1 (some (mN μ1)) = μ2 at h2 ⊢
  refine sg98_22 l G _ L _ _ _ ?_
  have hN2 : mN μ2 = L + 3 := h2.1
  rw [show Int32.toNatClampNeg 3 = 3 from rfl]
  refine ⟨⟨by decide, by decide⟩, ax_gd.mk (by decide) (by decide) ⟨⟨hL, by rw [nCK (by omega)]; exact h2.K (o := 0) (by omega) rfl⟩, ?_⟩⟩
  have h3 := h2.lst (k := 25) (z := 3) (g := 0) (i := 2) rfl (by omega) rfl
  change Iv ldT ldR μ (sR (nC μ2 25 3) L 2 (some (mN μ2))) L 4 at h3
  generalize sR (nC μ2 25 3) L 2 (some (mN μ2)) = μ3 at h3 ⊢
  refine sg98_30 l G _ L _ _ _ ?_
  have hN3 : mN μ3 = L + 4 := h3.1
  rw [show Int32.toNatClampNeg 3 = 3 from rfl]
  refine ⟨⟨by decide, by decide⟩, ax_gd.mk (by decide) (by decide) ⟨⟨hL, by rw [nCK (by omega)]; exact h3.K (o := 0) (by omega) rfl⟩, ?_⟩⟩
  have h4 := h3.lst (k := 26) (z := 3) (g := 0) (i := 3) rfl (by omega) rfl
  change Iv ldT ldR μ (sR (nC μ3 26 3) L 3 (some (mN μ3))) L 5 at h4
  generalize sR (nC μ3 26 3) L 3 (some (mN μ3)) = μ4 at h4 ⊢
  refine sg98_38 l G _ L _ _ _ ?_
  rw [q0]
  refine lp98a hL 8 0 _ _ μ4 (by omega) rfl rfl h4 (fun μ5 h5 => ?_)
  rw [q0]
  refine lp98b hL 20 0 _ _ μ5 (by omega) rfl rfl h5 (fun μ6 h6 => ?_)
  rw [q0]
  refine lp98c hL 3 0 _ _ μ6 (by omega) rfl rfl h6 (fun μ7 h7 => ?_)
  rw [q0]
  exact lp98d hL 3 0 _ _ μ7 (by omega) rfl rfl h7 q
end CL
