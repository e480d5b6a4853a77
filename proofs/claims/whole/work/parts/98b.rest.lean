/-! the constructors of the reader, of a course, of a tally -/
def Sm (lo hi : Nat) (μ μ' : ax_M) : Prop := ∀ b, lo ≤ b → b < hi → μ'.2.1 b = μ.2.1 b ∧ ∀ k, gI μ' b k = gI μ b k ∧ gR μ' b k = gR μ b k
section Sm
variable {lo hi : Nat} {μ μ' μ2 : ax_M}
theorem Sm.K (h : Sm lo hi μ μ') {b : Nat} (h1 : lo ≤ b) (h2 : b < hi) : mK μ' b = mK μ b := by unfold mK; rw [(h b h1 h2).1]
theorem Sm.Z (h : Sm lo hi μ μ') {b : Nat} (h1 : lo ≤ b) (h2 : b < hi) : mZ μ' b = mZ μ b := by unfold mZ; rw [(h b h1 h2).1]
theorem Sm.R (h : Sm lo hi μ μ') {b k : Nat} (h1 : lo ≤ b) (h2 : b < hi) : gR μ' b k = gR μ b k := ((h b h1 h2).2 k).2
theorem Sm.I (h : Sm lo hi μ μ') {b k : Nat} (h1 : lo ≤ b) (h2 : b < hi) : gI μ' b k = gI μ b k := ((h b h1 h2).2 k).1
theorem Sm.refl (lo hi : Nat) (μ : ax_M) : Sm lo hi μ μ := fun _ _ _ => ⟨rfl, fun _ => ⟨rfl, rfl⟩⟩
theorem Sm.trans (h : Sm lo hi μ μ') (k : Sm lo hi μ' μ2) : Sm lo hi μ μ2 := fun b h1 h2 => ⟨(k b h1 h2).1.trans (h b h1 h2).1, fun j => ⟨((k b h1 h2).2 j).1.trans ((h b h1 h2).2 j).1, ((k b h1 h2).2 j).2.trans ((h b h1 h2).2 j).2⟩⟩
theorem Sm.sub (h : Sm lo hi μ μ') {lo' hi' : Nat} (h1 : lo ≤ lo') (h2 : hi' ≤ hi) : Sm lo' hi' μ μ' := fun b q1 q2 => h b (by omega) (by omega)
theorem Ag.sm {n : Nat} (h : Ag n μ μ') (hn : hi ≤ n) : Sm lo hi μ μ' := fun b _ h2 => ⟨(h b (by omega)).1, fun j => ⟨((h b (by omega)).2 j).1, ((h b (by omega)).2 j).2.2⟩⟩
theorem Sm.st {a k : Nat} {v : Option Nat} (h : a < lo ∨ hi ≤ a) : Sm lo hi μ (sR μ a k v) := fun b h1 h2 => ⟨rfl, fun j => ⟨rfl, rR_n (Or.inl (by omega))⟩⟩
theorem isRow.sm {k n ko i L g : Nat} {f : Nat → Nat} (h : Sm lo hi μ μ') (hL : lo ≤ L ∧ L < hi) (hg : lo ≤ g ∧ g < hi) (hf : ∀ t, t < n → lo ≤ f t ∧ f t < hi) (r : isRow μ (gR μ L i) g k n ko f) : isRow μ' (gR μ' L i) g k n ko f := by
  obtain ⟨h1, h0, h2, h3, h4, h5⟩ := r
  exact ⟨by rw [h.R hL.1 hL.2]; exact h1, h0, by rw [h.K hg.1 hg.2]; exact h2, by rw [h.Z hg.1 hg.2]; exact h3, fun t ht => ⟨by rw [h.R hg.1 hg.2]; exact (h4 t ht).1, (h4 t ht).2.1, by rw [h.K (hf t ht).1 (hf t ht).2]; exact (h4 t ht).2.2⟩, h5⟩
theorem isLand.sm {L : Nat} (r : isLand μ L) (h : Sm L (L + 42) μ μ') : isLand μ' L := by
  obtain ⟨⟨h1, h2⟩, h3, h4, h5, h6, h7⟩ := r
  exact ⟨⟨h1, by rw [h.K (by omega) (by omega)]; exact h2⟩, isRow.sm h (by omega) (by omega) (fun t ht => by omega) h3, isRow.sm h (by omega) (by omega) (fun t ht => by omega) h4, isRow.sm h (by omega) (by omega) (fun t ht => by omega) h5, isRow.sm h (by omega) (by omega) (fun t ht => by omega) h6, fun i hi => ⟨by rw [h.R (by omega) (by omega)]; exact (h7 i hi).1, by rw [h.K (by omega) (by omega)]; exact (h7 i hi).2.1, by rw [h.Z (by omega) (by omega)]; exact (h7 i hi).2.2⟩⟩
theorem isGrid.sm {x : Option Nat} {g n z : Nat} (r : isGrid μ x g n z) (h : Sm g (g + 1 + n) μ μ') : isGrid μ' x g n z := by
  obtain ⟨h1, h0, h2, h3, h4, h5, h6⟩ := r
  exact ⟨h1, h0, by rw [h.K (by omega) (by omega)]; exact h2, by rw [h.Z (by omega) (by omega)]; exact h3, fun t ht => ⟨by rw [h.R (by omega) (by omega)]; exact (h4 t ht).1, by rw [h.K (by omega) (by omega)]; exact (h4 t ht).2.1, by rw [h.Z (by omega) (by omega)]; exact (h4 t ht).2.2⟩, h5, h6⟩
theorem isCourse.sm {c : Nat} (r : isCourse μ c) (h : Sm c (c + 81) μ μ') : isCourse μ' c := by
  have e : ∀ i, gR μ' c i = gR μ c i := fun i => h.R (by omega) (by omega)
  refine ⟨⟨r.ge, by rw [h.K (by omega) (by omega)]; exact r.k⟩, ?_, ?_, ?_, ?_, ?_, ?_, ?_, ?_⟩ <;> rw [e]
  · exact r.g0.sm (h.sub (by omega) (by omega))
  · exact r.g1.sm (h.sub (by omega) (by omega))
  · exact r.g2.sm (h.sub (by omega) (by omega))
  · exact r.g3.sm (h.sub (by omega) (by omega))
  · exact r.g4.sm (h.sub (by omega) (by omega))
  · exact r.g5.sm (h.sub (by omega) (by omega))
  · exact r.g6.sm (h.sub (by omega) (by omega))
  · exact r.g7.sm (h.sub (by omega) (by omega))
theorem isTally.sm {y c : Nat} (r : isTally μ y c) (h : Sm y (y + 7) μ μ') : isTally μ' y c := by
  obtain ⟨⟨h1, h2, h3, h4, h5, h6, h7, h8, h9, h10, h11, h12⟩, h13⟩ := r
  exact ⟨⟨h1, by rw [h.K (by omega) (by omega)]; exact h2, by rw [h.R (by omega) (by omega)]; exact h3, by rw [h.R (by omega) (by omega)]; exact h4, by rw [h.R (by omega) (by omega)]; exact h5, by rw [h.R (by omega) (by omega)]; exact h6, by rw [h.K (by omega) (by omega)]; exact h7, by rw [h.Z (by omega) (by omega)]; exact h8, by rw [h.K (by omega) (by omega)]; exact h9, by rw [h.Z (by omega) (by omega)]; exact h10, by rw [h.K (by omega) (by omega)]; exact h11, by rw [h.Z (by omega) (by omega)]; exact h12⟩, fun o ho => ⟨by rw [h.R (by omega) (by omega)]; exact (h13 o ho).1, by rw [h.K (by omega) (by omega)]; exact (h13 o ho).2.1, by rw [h.Z (by omega) (by omega)]; exact (h13 o ho).2.2⟩⟩
theorem isReader.sm (r : isReader μ) (h : Sm 150 156 μ μ') : isReader μ' := by
  obtain ⟨h1, h2, h3, h4, h5, h6, h7, h8, h9, h10, h11, h12, h13, h14, h15⟩ := r
  exact ⟨by rw [h.K (by omega) (by omega)]; exact h1, by rw [h.R (by omega) (by omega)]; exact h2, by rw [h.R (by omega) (by omega)]; exact h3, by rw [h.K (by omega) (by omega)]; exact h4, by rw [h.R (by omega) (by omega)]; exact h5, by rw [h.R (by omega) (by omega)]; exact h6, by rw [h.R (by omega) (by omega)]; exact h7, by rw [h.K (by omega) (by omega)]; exact h8, by rw [h.Z (by omega) (by omega)]; exact h9, by rw [h.K (by omega) (by omega)]; exact h10, by rw [h.Z (by omega) (by omega)]; exact h11, by rw [h.K (by omega) (by omega)]; exact h12, by rw [h.Z (by omega) (by omega)]; exact h13, by rw [h.K (by omega) (by omega)]; exact h14, by rw [h.R (by omega) (by omega)]; exact h15⟩
end Sm
/-- a course's grids -/
def cO (j : Nat) : Nat := [1, 10, 19, 28, 37, 46, 55, 68, 81].getD j 0
def cNn (j : Nat) : Nat := [8, 8, 8, 8, 8, 8, 12, 12].getD j 0
theorem cO_s : ∀ j, j < 8 → cO (j + 1) = cO j + 1 + cNn j ∧ cNn j ≤ 12 := by decide
theorem cO_p : ∀ j, j < 8 → 1 ≤ cO j := by decide
theorem cO_m : ∀ j, j < 9 → ∀ i, i < j → cO i + 1 + cNn i ≤ cO j ∧ 1 ≤ cO i ∧ cNn i ≤ 12 := by decide
def Co (μ0 μ : ax_M) (c j : Nat) : Prop := mN μ = c + cO j ∧ Ag c μ0 μ ∧ (64 ≤ c ∧ mK μ c = 1) ∧ ∀ i, i < j → isGrid μ (gR μ c i) (c + cO i) (cNn i) 12
theorem Co.st {μ0 μ : ax_M} {c j n : Nat} (h : Co μ0 μ c j) (hj : j < 8) (hn : cNn j = n) : Co μ0 (sR (nG μ n 12) c j (some (mN μ))) c (j + 1) := by
  subst hn
  obtain ⟨h1, h2, h3, h4⟩ := h
  have s := cO_s j hj
  have p : 1 ≤ cO j := cO_p j hj
  refine ⟨by show mN μ + 1 + cNn j = _; omega, fun b hb => ?_, ⟨h3.1, by rw [kR, (Ag.grid μ _ _).K (by omega)]; exact h3.2⟩, fun i hi => ?_⟩
  · have a := (Ag.grid μ (cNn j) 12) b (by omega)
    have d := h2 b hb
    refine ⟨a.1.trans d.1, fun k => ⟨(a.2 k).1.trans (d.2 k).1, (a.2 k).2.1.trans (d.2 k).2.1, ?_⟩⟩
    rw [rR_n (Or.inl (by omega))]
    exact (a.2 k).2.2.trans (d.2 k).2.2
  · by_cases e : i = j
    · subst e
      rw [rR_s]
      refine ⟨by rw [h1], by omega, by rw [kR, gGK, if_pos h1.symm], by rw [zR, gGZ, if_pos h1.symm], fun t ht => ⟨?_, ?_, ?_⟩, by omega, by omega⟩
      · rw [rR_n (Or.inl (by omega)), gGR, if_pos h1.symm, if_pos ht, h1]
      · rw [kR, gGK, if_neg (by omega), if_pos (by omega)]
      · rw [zR, gGZ, if_neg (by omega), if_pos (by omega)]
    · have m := cO_m j (by omega) i (by omega)
      rw [rR_n (Or.inr e), (Ag.grid μ _ _).R (by omega)]
      refine (h4 i (by omega)).sm (Sm.trans (Ag.sm (Ag.grid μ (cNn j) 12) (by omega)) (Sm.st (Or.inl (by omega))))
theorem ax_l12 : Cond.classLink (ax_nm ax_h12).cls 9 "[[I" ∈ ax_gw := ax_gwi (i := 395) (by decide +kernel) rfl
theorem ax_l37 : Cond.classLink (ax_nm ax_h37).cls 9 "[[I" ∈ ax_gw := ax_gwi (i := 441) (by decide +kernel) rfl
section TB
variable (l : Launch) (G : ax_G) (Q : Option ax_V → ax_M → Prop)
def cs12b : List (Nat × List Nat) := [(9, [0, 1]), (13, [0, 1]), (16, [0, 1]), (21, [0, 1]), (25, [0, 1]), (28, [0, 1]), (33, [0, 1]), (37, [0, 1]), (40, [0, 1]), (45, [0, 1]), (49, [0, 1]), (52, [0, 1]), (57, [0, 1]), (61, [0, 1]), (64, [0, 1]), (69, [0, 1]), (73, [0, 1]), (76, [0, 1]), (81, [0, 1]), (85, [0, 1]), (88, [0, 1]), (93, [0, 1]), (97, [0, 1]), (100, [0, 1]), (105, [])]
theorem tb12_13 (b0 : Nat) (b1 : Nat) (s0 : Option Nat) (s1 : Option Nat) (cl sl : Nat) (μ : ax_M) (hs : ax_wr s0 (fun a1 => ((64 ≤ a1 ∧ mK μ a1 = 1) ∧ ax_Rw l G ax_h12 (ax_E G ax_h12 Q) 16 [(0, ax_r (some b0)), (1, ax_r (some b1))] [] cl sl (sR μ a1 0 s1)))) : ax_Rw l G ax_h12 (ax_E G ax_h12 Q) 13 [(0, ax_r (some b0)), (1, ax_r (some b1))] [ax_r s1, ax_r s0] cl sl μ :=
  ax_go (cd := cd12) (N := 106) (cuts := cs12b) ok12 cn12 39 hs
theorem tb12_16 (b0 : Nat) (b1 : Nat) (cl sl : Nat) (μ : ax_M) (hs : ax_Rw l G ax_h12 (ax_E G ax_h12 Q) 21 [(0, ax_r (some b0)), (1, ax_r (some b1))] [ax_i 12, ax_i 8, ax_r (some b0)] cl sl μ) : ax_Rw l G ax_h12 (ax_E G ax_h12 Q) 16 [(0, ax_r (some b0)), (1, ax_r (some b1))] [] cl sl μ :=
  ax_go (cd := cd12) (N := 106) (cuts := cs12b) ok12 cn12 39 hs
theorem tb12_25 (b0 : Nat) (b1 : Nat) (s0 : Option Nat) (s1 : Option Nat) (cl sl : Nat) (μ : ax_M) (hs : ax_wr s0 (fun a1 => ((64 ≤ a1 ∧ mK μ a1 = 1) ∧ ax_Rw l G ax_h12 (ax_E G ax_h12 Q) 28 [(0, ax_r (some b0)), (1, ax_r (some b1))] [] cl sl (sR μ a1 1 s1)))) : ax_Rw l G ax_h12 (ax_E G ax_h12 Q) 25 [(0, ax_r (some b0)), (1, ax_r (some b1))] [ax_r s1, ax_r s0] cl sl μ :=
  ax_go (cd := cd12) (N := 106) (cuts := cs12b) ok12 cn12 39 hs
theorem tb12_28 (b0 : Nat) (b1 : Nat) (cl sl : Nat) (μ : ax_M) (hs : ax_Rw l G ax_h12 (ax_E G ax_h12 Q) 33 [(0, ax_r (some b0)), (1, ax_r (some b1))] [ax_i 12, ax_i 8, ax_r (some b0)] cl sl μ) : ax_Rw l G ax_h12 (ax_E G ax_h12 Q) 28 [(0, ax_r (some b0)), (1, ax_r (some b1))] [] cl sl μ :=
  ax_go (cd := cd12) (N := 106) (cuts := cs12b) ok12 cn12 39 hs
theorem tb12_37 (b0 : Nat) (b1 : Nat) (s0 : Option Nat) (s1 : Option Nat) (cl sl : Nat) (μ : ax_M) (hs : ax_wr s0 (fun a1 => ((64 ≤ a1 ∧ mK μ a1 = 1) ∧ ax_Rw l G ax_h12 (ax_E G ax_h12 Q) 40 [(0, ax_r (some b0)), (1, ax_r (some b1))] [] cl sl (sR μ a1 2 s1)))) : ax_Rw l G ax_h12 (ax_E G ax_h12 Q) 37 [(0, ax_r (some b0)), (1, ax_r (some b1))] [ax_r s1, ax_r s0] cl sl μ :=
  ax_go (cd := cd12) (N := 106) (cuts := cs12b) ok12 cn12 39 hs
theorem tb12_40 (b0 : Nat) (b1 : Nat) (cl sl : Nat) (μ : ax_M) (hs : ax_Rw l G ax_h12 (ax_E G ax_h12 Q) 45 [(0, ax_r (some b0)), (1, ax_r (some b1))] [ax_i 12, ax_i 8, ax_r (some b0)] cl sl μ) : ax_Rw l G ax_h12 (ax_E G ax_h12 Q) 40 [(0, ax_r (some b0)), (1, ax_r (some b1))] [] cl sl μ :=
  ax_go (cd := cd12) (N := 106) (cuts := cs12b) ok12 cn12 39 hs
theorem tb12_49 (b0 : Nat) (b1 : Nat) (s0 : Option Nat) (s1 : Option Nat) (cl sl : Nat) (μ : ax_M) (hs : ax_wr s0 (fun a1 => ((64 ≤ a1 ∧ mK μ a1 = 1) ∧ ax_Rw l G ax_h12 (ax_E G ax_h12 Q) 52 [(0, ax_r (some b0)), (1, ax_r (some b1))] [] cl sl (sR μ a1 3 s1)))) : ax_Rw l G ax_h12 (ax_E G ax_h12 Q) 49 [(0, ax_r (some b0)), (1, ax_r (some b1))] [ax_r s1, ax_r s0] cl sl μ :=
  ax_go (cd := cd12) (N := 106) (cuts := cs12b) ok12 cn12 39 hs
theorem tb12_52 (b0 : Nat) (b1 : Nat) (cl sl : Nat) (μ : ax_M) (hs : ax_Rw l G ax_h12 (ax_E G ax_h12 Q) 57 [(0, ax_r (some b0)), (1, ax_r (some b1))] [ax_i 12, ax_i 8, ax_r (some b0)] cl sl μ) : ax_Rw l G ax_h12 (ax_E G ax_h12 Q) 52 [(0, ax_r (some b0)), (1, ax_r (some b1))] [] cl sl μ :=
  ax_go (cd := cd12) (N := 106) (cuts := cs12b) ok12 cn12 39 hs
theorem tb12_61 (b0 : Nat) (b1 : Nat) (s0 : Option Nat) (s1 : Option Nat) (cl sl : Nat) (μ : ax_M) (hs : ax_wr s0 (fun a1 => ((64 ≤ a1 ∧ mK μ a1 = 1) ∧ ax_Rw l G ax_h12 (ax_E G ax_h12 Q) 64 [(0, ax_r (some b0)), (1, ax_r (some b1))] [] cl sl (sR μ a1 4 s1)))) : ax_Rw l G ax_h12 (ax_E G ax_h12 Q) 61 [(0, ax_r (some b0)), (1, ax_r (some b1))] [ax_r s1, ax_r s0] cl sl μ :=
  ax_go (cd := cd12) (N := 106) (cuts := cs12b) ok12 cn12 39 hs
theorem tb12_64 (b0 : Nat) (b1 : Nat) (cl sl : Nat) (μ : ax_M) (hs : ax_Rw l G ax_h12 (ax_E G ax_h12 Q) 69 [(0, ax_r (some b0)), (1, ax_r (some b1))] [ax_i 12, ax_i 8, ax_r (some b0)] cl sl μ) : ax_Rw l G ax_h12 (ax_E G ax_h12 Q) 64 [(0, ax_r (some b0)), (1, ax_r (some b1))] [] cl sl μ :=
  ax_go (cd := cd12) (N := 106) (cuts := cs12b) ok12 cn12 39 hs
theorem tb12_73 (b0 : Nat) (b1 : Nat) (s0 : Option Nat) (s1 : Option Nat) (cl sl : Nat) (μ : ax_M) (hs : ax_wr s0 (fun a1 => ((64 ≤ a1 ∧ mK μ a1 = 1) ∧ ax_Rw l G ax_h12 (ax_E G ax_h12 Q) 76 [(0, ax_r (some b0)), (1, ax_r (some b1))] [] cl sl (sR μ a1 5 s1)))) : ax_Rw l G ax_h12 (ax_E G ax_h12 Q) 73 [(0, ax_r (some b0)), (1, ax_r (some b1))] [ax_r s1, ax_r s0] cl sl μ :=
  ax_go (cd := cd12) (N := 106) (cuts := cs12b) ok12 cn12 39 hs
theorem tb12_76 (b0 : Nat) (b1 : Nat) (cl sl : Nat) (μ : ax_M) (hs : ax_Rw l G ax_h12 (ax_E G ax_h12 Q) 81 [(0, ax_r (some b0)), (1, ax_r (some b1))] [ax_i 12, ax_i 12, ax_r (some b0)] cl sl μ) : ax_Rw l G ax_h12 (ax_E G ax_h12 Q) 76 [(0, ax_r (some b0)), (1, ax_r (some b1))] [] cl sl μ :=
  ax_go (cd := cd12) (N := 106) (cuts := cs12b) ok12 cn12 39 hs
theorem tb12_85 (b0 : Nat) (b1 : Nat) (s0 : Option Nat) (s1 : Option Nat) (cl sl : Nat) (μ : ax_M) (hs : ax_wr s0 (fun a1 => ((64 ≤ a1 ∧ mK μ a1 = 1) ∧ ax_Rw l G ax_h12 (ax_E G ax_h12 Q) 88 [(0, ax_r (some b0)), (1, ax_r (some b1))] [] cl sl (sR μ a1 6 s1)))) : ax_Rw l G ax_h12 (ax_E G ax_h12 Q) 85 [(0, ax_r (some b0)), (1, ax_r (some b1))] [ax_r s1, ax_r s0] cl sl μ :=
  ax_go (cd := cd12) (N := 106) (cuts := cs12b) ok12 cn12 39 hs
theorem tb12_88 (b0 : Nat) (b1 : Nat) (cl sl : Nat) (μ : ax_M) (hs : ax_Rw l G ax_h12 (ax_E G ax_h12 Q) 93 [(0, ax_r (some b0)), (1, ax_r (some b1))] [ax_i 12, ax_i 12, ax_r (some b0)] cl sl μ) : ax_Rw l G ax_h12 (ax_E G ax_h12 Q) 88 [(0, ax_r (some b0)), (1, ax_r (some b1))] [] cl sl μ :=
  ax_go (cd := cd12) (N := 106) (cuts := cs12b) ok12 cn12 39 hs
end TB
section CR
variable {l : Launch} {G : ax_G} {μ : ax_M} {K : ax_M → Prop}
theorem d26 {b : Nat} (h : 64 ≤ b) (hk : mK μ b = 4) (hN : mN μ = b + 1) (q : K (sR (nC (sR (nC (sR (nC μ 22 18) b 0 (some (b + 1))) 21 18) b 1 (some (b + 2))) 21 18) b 2 (some (b + 3)))) : ax_CV l G 26 [ax_r (some b)] μ K := by
  refine ax_Ct.of (by decide) (Nat.le_of_ble_eq_true rfl) (sg26_0 l G _ b _ ?_)
  rw [show Int32.toNatClampNeg 18 = 18 from rfl, hN]
  refine ⟨h, ⟨by decide, by decide⟩, ax_gd.mk (by decide) (by decide) ⟨⟨h, by rw [nCK (by omega)]; exact hk⟩, ?_⟩⟩
  refine sg26_12 l G _ b _ _ _ ?_
  rw [show Int32.toNatClampNeg 18 = 18 from rfl, nnR, ax_mN_nC, hN]
  refine ⟨⟨by decide, by decide⟩, ax_gd.mk (by decide) (by decide) ⟨⟨h, by rw [nCK (by rw [nnR, ax_mN_nC]; omega), kR, nCK (by omega)]; exact hk⟩, ?_⟩⟩
  refine sg26_20 l G _ b _ _ _ ?_
  rw [show Int32.toNatClampNeg 18 = 18 from rfl, nnR, ax_mN_nC, nnR, ax_mN_nC, hN]
  refine ⟨⟨by decide, by decide⟩, ax_gd.mk (by decide) (by decide) ⟨⟨h, by rw [nCK (by rw [nnR, ax_mN_nC, nnR, ax_mN_nC]; omega), kR, nCK (by rw [nnR, ax_mN_nC]; omega), kR, nCK (by omega)]; exact hk⟩, ?_⟩⟩
  refine sg26_28 l G _ _ _ _ ?_
  exact ax_gd.mk (by decide) (by decide) ⟨rfl, q⟩
theorem d12 {c L : Nat} (hc : 64 ≤ c) (hf : Fresh μ c 1) (q : ∀ μ', mN μ' = c + 81 → Ag c μ μ' → isCourse μ' c → gR μ' c 8 = some L → K μ') : ax_CV l G 12 [ax_r (some c), ax_r (some L)] μ K := by
  have h0 : Co μ μ c 0 := ⟨hf.1, fun b _ => ⟨rfl, fun _ => ⟨rfl, rfl, rfl⟩⟩, ⟨hc, hf.K⟩, fun i hi => absurd hi (Nat.not_lt_zero _)⟩
  refine ax_Ct.of (by decide) (Nat.le_of_ble_eq_true rfl) (sg12_0 l G _ c L _ ?_)
  refine ⟨hc, ax_s_multi (N := 8) (K := 12) (by decide +kernel) ax_l12 (by decide) (by decide) rfl rfl (by decide) (by decide) (by decide) (by decide) ?_⟩
  refine tb12_13 l G _ c L (some c) _ _ _ _ (wr_c rfl ⟨⟨hc, by rw [(Ag.grid μ _ _).K (by have e : mN μ = c + 1 := h0.1; omega)]; exact h0.2.2.1.2⟩, ?_⟩)
  have h1 := h0.st (n := 8) (by omega) rfl
  generalize sR (nG μ 8 12) c 0 (some (mN μ)) = μ1 at h1 ⊢
  refine tb12_16 l G _ c L _ _ _ ?_
  refine ax_s_multi (N := 8) (K := 12) (by decide +kernel) ax_l12 (by decide) (by decide) rfl rfl (by decide) (by decide) (by decide) (by decide) ?_
  refine tb12_25 l G _ c L (some c) _ _ _ _ (wr_c rfl ⟨⟨hc, by rw [(Ag.grid μ1 _ _).K (by have e : mN μ1 = c + 10 := h1.1; omega)]; exact h1.2.2.1.2⟩, ?_⟩)
  have h2 := h1.st (n := 8) (by omega) rfl
  generalize sR (nG μ1 8 12) c 1 (some (mN μ1)) = μ2 at h2 ⊢
  refine tb12_28 l G _ c L _ _ _ ?_
  refine ax_s_multi (N := 8) (K := 12) (by decide +kernel) ax_l12 (by decide) (by decide) rfl rfl (by decide) (by decide) (by decide) (by decide) ?_
  refine tb12_37 l G _ c L (some c) _ _ _ _ (wr_c rfl ⟨⟨hc, by rw [(Ag.grid μ2 _ _).K (by have e : mN μ2 = c + 19 := h2.1; omega)]; exact h2.2.2.1.2⟩, ?_⟩)
  have h3 := h2.st (n := 8) (by omega) rfl
  generalize sR (nG μ2 8 12) c 2 (some (mN μ2)) = μ3 at h3 ⊢
  refine tb12_40 l G _ c L _ _ _ ?_
  refine ax_s_multi (N := 8) (K := 12) (by decide +kernel) ax_l12 (by decide) (by decide) rfl rfl (by decide) (by decide) (by decide) (by decide) ?_
  refine tb12_49 l G _ c L (some c) _ _ _ _ (wr_c rfl ⟨⟨hc, by rw [(Ag.grid μ3 _ _).K (by have e : mN μ3 = c + 28 := h3.1; omega)]; exact h3.2.2.1.2⟩, ?_⟩)
  have h4 := h3.st (n := 8) (by omega) rfl
  generalize sR (nG μ3 8 12) c 3 (some (mN μ3)) = μ4 at h4 ⊢
  refine tb12_52 l G _ c L _ _ _ ?_
  refine ax_s_multi (N := 8) (K := 12) (by decide +kernel) ax_l12 (by decide) (by decide) rfl rfl (by decide) (by decide) (by decide) (by decide) ?_
  refine tb12_61 l G _ c L (some c) _ _ _ _ (wr_c rfl ⟨⟨hc, by rw [(Ag.grid μ4 _ _).K (by have e : mN μ4 = c + 37 := h4.1; omega)]; exact h4.2.2.1.2⟩, ?_⟩)
  have h5 := h4.st (n := 8) (by omega) rfl
  generalize sR (nG μ4 8 12) c 4 (some (mN μ4)) = μ5 at h5 ⊢
  refine tb12_64 l G _ c L _ _ _ ?_
  refine ax_s_multi (N := 8) (K := 12) (by decide +kernel) ax_l12 (by decide) (by decide) rfl rfl (by decide) (by decide) (by decide) (by decide) ?_
  refine tb12_73 l G _ c L (some c) _ _ _ _ (wr_c rfl ⟨⟨hc, by rw [(Ag.grid μ5 _ _).K (by have e : mN μ5 = c + 46 := h5.1; omega)]; exact h5.2.2.1.2⟩, ?_⟩)
  have h6 := h5.st (n := 8) (by omega) rfl
  generalize sR (nG μ5 8 12) c 5 (some (mN μ5)) = μ6 at h6 ⊢
  refine tb12_76 l G _ c L _ _ _ ?_
  refine ax_s_multi (N := 12) (K := 12) (by decide +kernel) ax_l12 (by decide) (by decide) rfl rfl (by decide) (by decide) (by decide) (by decide) ?_
  refine tb12_85 l G _ c L (some c) _ _ _ _ (wr_c rfl ⟨⟨hc, by rw [(Ag.grid μ6 _ _).K (by have e : mN μ6 = c + 55 := h6.1; omega)]; exact h6.2.2.1.2⟩, ?_⟩)
  have h7 := h6.st (n := 12) (by omega) rfl
  generalize sR (nG μ6 12 12) c 6 (some (mN μ6)) = μ7 at h7 ⊢
  refine tb12_88 l G _ c L _ _ _ ?_
  refine ax_s_multi (N := 12) (K := 12) (by decide +kernel) ax_l12 (by decide) (by decide) rfl rfl (by decide) (by decide) (by decide) (by decide) ?_
  refine sg12_97 l G _ c L (some c) _ _ _ _ (wr_c rfl ⟨⟨hc, by rw [(Ag.grid μ7 _ _).K (by have e : mN μ7 = c + 68 := h7.1; omega)]; exact h7.2.2.1.2⟩, ?_⟩)
  have h8 := h7.st (n := 12) (by omega) rfl
  generalize sR (nG μ7 12 12) c 7 (some (mN μ7)) = μ8 at h8 ⊢
  refine sg12_100 l G _ c L _ _ _ ?_
  refine ⟨h8.2.2.1, ?_⟩
  refine sg12_105 l G _ _ _ _ ?_
  refine ax_gd.mk (by decide) (by decide) ⟨rfl, q _ h8.1 (fun b hb => ?_) ?_ (rR_s _ _ _ _)⟩
  · have d := h8.2.1 b hb
    exact ⟨d.1, fun k => ⟨(d.2 k).1, (d.2 k).2.1, by rw [rR_n (Or.inl (by omega))]; exact (d.2 k).2.2⟩⟩
  · have g := h8.2.2.2
    refine ⟨h8.2.2.1, ?_, ?_, ?_, ?_, ?_, ?_, ?_, ?_⟩ <;> rw [rR_n (Or.inr (by omega))]
    · exact (g 0 (by omega)).sm (Sm.st (Or.inl (by show c < c + 1; omega)))
    · exact (g 1 (by omega)).sm (Sm.st (Or.inl (by show c < c + 10; omega)))
    · exact (g 2 (by omega)).sm (Sm.st (Or.inl (by show c < c + 19; omega)))
    · exact (g 3 (by omega)).sm (Sm.st (Or.inl (by show c < c + 28; omega)))
    · exact (g 4 (by omega)).sm (Sm.st (Or.inl (by show c < c + 37; omega)))
    · exact (g 5 (by omega)).sm (Sm.st (Or.inl (by show c < c + 46; omega)))
    · exact (g 6 (by omega)).sm (Sm.st (Or.inl (by show c < c + 55; omega)))
    · exact (g 7 (by omega)).sm (Sm.st (Or.inl (by show c < c + 68; omega)))
end CR
