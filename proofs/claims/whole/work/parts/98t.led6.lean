/-! the law's call of led: both sides agree -/
theorem m70 {l : Launch} {G : ax_G} {μ : ax_M} {K : Int32 → ax_M → Prop} (hk : mK μ 332 = 12) (q : K (gI μ 332 0) μ) : ax_CI l G 70 [ax_r (some 332)] μ K := by
  refine ax_Ct.of (by decide) (Nat.le_of_ble_eq_true rfl) (sg70_0 l G _ 332 _ ?_)
  exact ⟨hk, _, rfl, q⟩
theorem ledOk {l : Launch} (hl0 : l.stackTraces = false) {G : ax_G} {n : Nat} {f : Nat → Int32} : Led l G (lw_E KX G) n f := by
  intro i cl sl μ st hj hi hc hs q1' q2'
  have hn : n < 2 ^ 31 := hj.2.2.2.2
  refine sg249_1360 l G (lw_E KX G) 0 (some 64) (some 332) (some 340) (nI i) cl sl μ ?_
  simp only [nJ_1, nJ_2, clN (show i + 1 < 2 ^ 31 by omega), clN (show i + 2 < 2 ^ 31 by omega), hj.1.2.2]
  refine ⟨hj.inn (by omega), hj.inn (by omega), led1374 hl0 hj.2.1 hj.2.2.2.1 (by omega) (by omega) (fun v μ' hQ => ?_)⟩
  have hJ : LJ μ' st n f ∧ ((∃ k, aLed st (f (i + 1)) (f (i + 2)) = some k ∧ v = 0 ∧ gL μ' 340 0 = Int32.toInt64 (nI k)) ∨ (aLed st (f (i + 1)) (f (i + 2)) = none ∧ v = 1)) := by
    rcases hQ with ⟨k, h1, h2, h3, rfl⟩ | ⟨h1, h3, j, rfl⟩
    · have e : v = 0 := by
        have := Option.some.inj h3
        exact Sum.inl.inj this
      exact ⟨⟨hj.1, hj.2.1, hj.2.2.1, hj.2.2.2.1, hn⟩, Or.inl ⟨k, h1, e, by rw [lL, if_pos ⟨rfl, rfl⟩]⟩⟩
    · have e : v = 1 := by
        have := Option.some.inj h3
        exact Sum.inl.inj this
      exact ⟨⟨hj.1, hj.2.1, hj.2.2.1.junk j, hj.2.2.2.1, hn⟩, Or.inr ⟨h1, e⟩⟩
  obtain ⟨hk, hr⟩ := hJ
  refine sg249_1377 l G (lw_E KX G) 0 (some 64) (some 332) (some 340) (nI i) v (cl + 1) (sl + 6) μ' ?_
  simp only [nJ_1, nJ_2, clN (show i + 1 < 2 ^ 31 by omega), clN (show i + 2 < 2 ^ 31 by omega), hk.1.2.2]
  refine ⟨hk.inn (by omega), hk.inn (by omega), wr_c rfl ⟨hk.2.2.1.1.1, ax_gd.mk (by omega) (by omega) (m152 hk.2.2.1 (fun m2 o2 x2 g2 => ?_))⟩⟩
  have hk2 : LJ m2 st n f := LK.mod (st := st) (st' := st) hk o2 x2
  refine wr_c rfl ⟨hk2.2.2.1.1.1, ax_gd.mk (by omega) (by omega) (m70 hk2.2.2.1.1.1 ?_)⟩
  rcases hr with ⟨k, h1, rfl, h3⟩ | ⟨h1, rfl⟩
  · rw [h1] at g2 ⊢
    have e0 : gI m2 332 0 = 0 := g2
    have gl : gL m2 340 0 = Int32.toInt64 (nI k) := (((o2.2 340 (Or.inr rfl)).2 0).2.1).trans h3
    refine ⟨fun _ => ⟨fun _ => wr_c rfl ⟨⟨hk2.2.2.2.1.1, ?_⟩, ⟨fun _ => q2' m2 st hk2, fun h => absurd ((lg_cmp_eq _ _).mpr ?_) h⟩⟩, fun h => absurd rfl h⟩, fun h => absurd e0 h⟩
    · have := in_c (t := 0) hk2.2.2.2.1.2 (by omega) (by omega)
      rw [← q0] at this
      exact this
    · exact gl
  · rw [h1] at g2
    have e1 : gI m2 332 0 = 1 := g2
    exact ⟨fun _ => ⟨fun h => absurd h (by decide), fun _ => q2' m2 st hk2⟩, fun h => absurd e1 h⟩
