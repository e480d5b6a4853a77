/-! each side leaves the other's cells -/
def Up (μ μ' : ax_M) : Prop := mN μ' = mN μ ∧ ∀ b, 332 ≤ b → μ'.2.1 b = μ.2.1 b ∧ ∀ k, gI μ' b k = gI μ b k ∧ gL μ' b k = gL μ b k ∧ gR μ' b k = gR μ b k
section Up
variable {μ μ' : ax_M}
theorem Up.K (h : Up μ μ') {b : Nat} (hb : 332 ≤ b) : mK μ' b = mK μ b := by unfold mK; rw [(h.2 b hb).1]
theorem Up.Z (h : Up μ μ') {b : Nat} (hb : 332 ≤ b) : mZ μ' b = mZ μ b := by unfold mZ; rw [(h.2 b hb).1]
theorem Up.I (h : Up μ μ') {b k : Nat} (hb : 332 ≤ b) : gI μ' b k = gI μ b k := ((h.2 b hb).2 k).1
theorem Up.R (h : Up μ μ') {b k : Nat} (hb : 332 ≤ b) : gR μ' b k = gR μ b k := ((h.2 b hb).2 k).2.2
theorem isML.up {N : Nat} (h : isML μ N) (a : Up μ μ') : isML μ' N := by
  have hN := h.1
  unfold isML at h ⊢
  simp (disch := omega) only [a.K, a.Z, a.R]
  exact h
theorem isMo.up (h : isMo μ) (a : Up μ μ') : isMo μ' := by
  unfold isMo at h ⊢
  simp (disch := omega) only [a.K, a.Z, a.R]
  exact h
theorem RepM.up {N : Nat} {a : Ld} (hl : RepM μ N a) (h : Up μ μ') : RepM μ' N a := by
  obtain ⟨h0, h1, h2, h3, h4, h5⟩ := hl
  have hN := h0.1
  refine ⟨h0.up h, fun k hk => ?_, fun t ht f hf => ?_, fun k hk => ⟨fun f hf => ?_, fun hh => ?_⟩, fun k hk => ⟨?_, ?_, fun g hg => ?_⟩, fun o ho => ⟨?_, ?_, ?_⟩⟩
  · rw [h.I (by omega)]; exact h1 k hk
  · rw [h.I (by omega)]; exact h2 t ht f hf
  · rw [h.I (by omega)]; exact (h3 k hk).1 f hf
  · rw [h.I (by omega)]; exact (h3 k hk).2 hh
  · rw [h.I (by omega)]; exact (h4 k hk).1
  · rw [h.I (by omega)]; exact (h4 k hk).2.1
  · rw [h.I (by omega)]; exact (h4 k hk).2.2 g hg
  · rw [h.I (by omega)]; exact (h5 o ho).1
  · rw [h.I (by omega)]; exact (h5 o ho).2.1
  · rw [h.I (by omega)]; exact (h5 o ho).2.2
theorem MB.up {N : Nat} {a : Ld} (hl : MB μ N a) (h : Up μ μ') : MB μ' N a := by
  refine ⟨⟨⟨hl.1.1.1, hl.1.1.2.1.up h, by rw [h.R (by omega)]; exact hl.1.1.2.2.1, hl.1.1.2.2.2.up h⟩, fun t m ht hm => ?_⟩, fun x y m hh hg hm h0 => ?_⟩
  · rw [h.I (by omega), h.I (by omega), h.I (by omega), h.I (by omega)]; exact hl.1.2 t m ht hm
  · rw [h.I (by omega), h.I (by omega)]; exact hl.2 x y m hh hg hm h0
theorem Mx.up {st : St} (h : Mx μ st) (a : Up μ μ') : Mx μ' st := by
  obtain ⟨h1, ⟨h2, h3, h4, h5⟩, h6, h7, h8⟩ := h
  refine ⟨h1.up a, ⟨by rw [a.I (by omega)]; exact h2, by rw [a.I (by omega)]; exact h3, by rw [a.I (by omega)]; exact h4, by rw [a.I (by omega)]; exact h5⟩, ⟨h6.1, by rw [a.1]; exact h6.2⟩, fun i hi => by rw [a.I (by omega)]; exact h7 i hi, ?_⟩
  rcases h8 with ⟨e, r⟩ | ⟨b, N, e, hN, hM⟩
  · exact Or.inl ⟨e, by rw [a.R (by omega)]; exact r⟩
  · exact Or.inr ⟨b, N, e, by rw [a.1]; exact hN, hM.up a⟩
theorem Out.up (h : Out 64 332 μ μ') : Up μ μ' := ⟨h.1, fun b hb => h.2 b (Or.inr hb)⟩
end Up
section Dn
variable {μ μ' : ax_M}
theorem OutM.ag (h : OutM μ μ') : Ag 332 μ μ' := fun b hb => h.2 b (Or.inl hb)
theorem RepL.dn {L : Nat} {a : Ld} (ha : LdOk a) (hl : RepL μ L a) (h : Ag 332 μ μ') (hL : L + 42 ≤ 332) : RepL μ' L a := by
  obtain ⟨h0, h1, h2, h3, h4, h5⟩ := hl
  obtain ⟨-, -, b1, b2, b3, b4, -⟩ := ha
  refine ⟨h0.sm (h.sm hL), fun k hk => ?_, fun t ht f hf => ?_, fun k hk => ⟨fun f hf => ?_, fun hh => ?_⟩, fun k hk => ⟨?_, ?_, fun g hg => ?_⟩, fun o ho f hf => ?_⟩
  · rw [h.I (by omega)]; exact h1 k hk
  · rw [h.I (by omega)]; exact h2 t ht f hf
  · rw [h.I (by omega)]; exact (h3 k hk).1 f hf
  · rw [h.I (by omega)]; exact (h3 k hk).2 hh
  · rw [h.I (by omega)]; exact (h4 k hk).1
  · rw [h.I (by omega)]; exact (h4 k hk).2.1
  · rw [h.I (by omega)]; exact (h4 k hk).2.2 g hg
  · rw [h.I (by omega)]; exact h5 o ho f hf
theorem CA.dn {c L : Nat} {a : Ld} (h : CA μ c L a) (f : Ag 332 μ μ') (hc : c + 81 ≤ 332) (hL : L + 42 ≤ 332) : CA μ' c L a := by
  have hb := h.bd
  refine ⟨⟨⟨⟨h.1.1.1.1, h.1.1.1.2.1.sm (f.sm hc), by rw [f.R (by omega)]; exact h.1.1.1.2.2.1, h.1.1.1.2.2.2.1.dn h.1.1.1.1 f hL, h.1.1.1.2.2.2.2⟩, fun t m ht hm => ?_⟩, fun x y m hh hg hm => ?_⟩, fun t m ht hm => ?_⟩
  · obtain ⟨⟨h1, h2, h3, h4⟩, h5⟩ := h.1.1.2 t m ht hm
    unfold RepT
    rw [f.I (by omega), f.I (by omega), f.I (by omega), f.I (by omega), f.I (by omega)]
    exact ⟨⟨h1, h2, h3, h4⟩, h5⟩
  · rw [f.I (by omega), f.I (by omega)]
    exact h.1.2 x y m hh hg hm
  · rw [f.I (by omega)]
    exact h.2 t m ht hm
theorem TN.dn {y c L : Nat} {a : Ld} (h : TN μ y c L a) (f : Ag 332 μ μ') (hy : y + 7 ≤ 332) (hc : c + 81 ≤ 332) (hL : L + 42 ≤ 332) : TN μ' y c L a := by
  have hb := h.bd
  refine ⟨⟨h.1.1.dn f hc hL, h.1.2.1.sm (f.sm hy), by rw [f.R (by omega)]; exact h.1.2.2.1, h.1.2.2.2⟩, fun o m ho hm => ?_⟩
  rw [f.I (by omega)]
  exact h.2 o m ho hm
theorem X.dn {st : St} (h : X μ st) (f : Ag 332 μ μ') : X μ' st := by
  obtain ⟨L, M, ⟨⟨k1, r0, r1, r2, r3, r4, r5, r6, r7, k2, z2⟩, hLM, h3, h4, h5, h6, h7, h8, h9⟩, ⟨g1, g2, g3⟩, g4, g5, g6, g7, g8⟩ := h
  have hL : L + 42 ≤ 332 := by omega
  have hM : M + 42 ≤ 332 := by omega
  refine ⟨L, M, ⟨⟨by rw [f.K (by omega)]; exact k1, by rw [f.R (by omega)]; exact r0, by rw [f.R (by omega)]; exact r1, by rw [f.R (by omega)]; exact r2, by rw [f.R (by omega)]; exact r3, by rw [f.R (by omega)]; exact r4, by rw [f.R (by omega)]; exact r5, by rw [f.R (by omega)]; exact r6, by rw [f.R (by omega)]; exact r7, by rw [f.K (by omega)]; exact k2, by rw [f.Z (by omega)]; exact z2⟩, hLM, h3.sm (f.sm (by omega)), h4.sm (f.sm hL), h5.sm (f.sm hM), h6.sm (f.sm (by omega)), h7.sm (f.sm (by omega)), h8.sm (f.sm (by omega)), h9.sm (f.sm (by omega))⟩, ⟨by rw [f.I (by omega)]; exact g1, by rw [f.I (by omega)]; exact g2, by rw [f.I (by omega)]; exact g3⟩, g4, fun e => by rw [f.I (by omega)]; exact g5 e, fun i hi => by rw [f.I (by omega)]; exact g6 i hi, fun k hk => by rw [f.I (by omega)]; exact g7 k hk, fun a ha => (g8 a ha).dn f (by omega) (by omega) hL⟩
theorem X.k64 {st : St} (h : X μ st) : mK μ 64 = 10 := by
  obtain ⟨L, M, h⟩ := h
  exact h.1.1.1
theorem X.tape {st : St} (h : X μ st) : ∀ i, i < ln st → tp st i < 256 := by
  obtain ⟨L, M, h⟩ := h
  exact fun i hi => (h.2.2.2.2.1 i hi).2
end Dn
/-- the law's state: script, class, model, the long[1] -/
def LJ (μ : ax_M) (st : St) (n : Nat) (f : Nat → Int32) : Prop := (mK μ 0 = 21 ∧ mZ μ 0 = n ∧ ∀ j, gI μ 0 j = f j) ∧ X μ st ∧ Mx μ st ∧ (mK μ 340 = 22 ∧ mZ μ 340 = 1) ∧ n < 2 ^ 31
section LJ
variable {μ μ' : ax_M} {st st' : St} {n : Nat} {f : Nat → Int32}
/-- the class has answered -/
def LK (μ : ax_M) (st st' : St) (n : Nat) (f : Nat → Int32) : Prop := (mK μ 0 = 21 ∧ mZ μ 0 = n ∧ ∀ j, gI μ 0 j = f j) ∧ X μ st' ∧ Mx μ st ∧ (mK μ 340 = 22 ∧ mZ μ 340 = 1) ∧ n < 2 ^ 31
theorem LJ.same (h : LJ μ st n f) : LK μ st st n f := h
theorem LJ.cls (h : LJ μ st n f) (o : Out 64 332 μ μ') (x : X μ' st') : LK μ' st st' n f := by
  obtain ⟨⟨h1, h2, h3⟩, h4, h5, ⟨h6, h7⟩, h8⟩ := h
  have u := o.up
  have a : ∀ b, b < 64 → _ := fun b hb => o.2 b (Or.inl hb)
  refine ⟨⟨?_, ?_, fun j => ((a 0 (by omega)).2 j).1.trans (h3 j)⟩, x, h5.up u, ⟨by rw [u.K (by omega)]; exact h6, by rw [u.Z (by omega)]; exact h7⟩, h8⟩
  · unfold mK at h1 ⊢
    rw [(a 0 (by omega)).1]; exact h1
  · unfold mZ at h2 ⊢
    rw [(a 0 (by omega)).1]; exact h2
theorem LK.mod (h : LK μ st st' n f) (o : OutM μ μ') (x : Mx μ' st') : LJ μ' st' n f := by
  obtain ⟨⟨h1, h2, h3⟩, h4, h5, ⟨h6, h7⟩, h8⟩ := h
  have a := o.ag
  have b := (o.2 340 (Or.inr rfl)).1
  refine ⟨⟨by rw [a.K (by omega)]; exact h1, by rw [a.Z (by omega)]; exact h2, fun j => (a.I (by omega)).trans (h3 j)⟩, h4.dn a, x, ⟨?_, ?_⟩, h8⟩
  · unfold mK at h6 ⊢
    rw [b]; exact h6
  · unfold mZ at h7 ⊢
    rw [b]; exact h7
theorem LK.inn (h : LK μ st st' n f) {j : Nat} (hj : j < n) : mK μ 0 = 21 ∧ vp_in (nI j) (mZ μ 0) := ⟨h.1.1, in_c h.1.2.1 hj h.2.2.2.2⟩
theorem LJ.inn (h : LJ μ st n f) {j : Nat} (hj : j < n) : mK μ 0 = 21 ∧ vp_in (nI j) (mZ μ 0) := ⟨h.1.1, in_c h.1.2.1 hj h.2.2.2.2⟩
theorem LK.k332 (h : LK μ st st' n f) : mK μ 332 = 12 := h.2.2.1.1.1
theorem LJ.k64 (h : LJ μ st n f) : mK μ 64 = 10 := h.2.1.k64
end LJ
