/-! the law's call of led -/
theorem cLawLed {l : Launch} (hl0 : l.stackTraces = false) {G : ax_G} {μ : ax_M} {st : St} {x y : Int32} (hX : X μ st) (h340 : mK μ 340 = 22 ∧ mZ μ 340 = 1) : Met l (ax_nm ax_h250) ws250 (ax_rm ax_h250) (va_Pc ([ax_r (some 64), ax_i x, ax_i y, ax_r (some 340)].map (ax_cv G)) (fun U => ax_Hd G μ U.heap ∧ ax_KK G U ∧ KX G U)) (ax_Qc G (QB μ (aLed st x y))) 1 6 (ax_fr G) := by
  have R : ax_Rw l G ax_h250 (EB G μ (aLed st x y)) 0 (ax_ent 0 [ax_r (some 64), ax_i x, ax_i y, ax_r (some 340)]) [] 0 0 μ := sg250_0 l G _ 64 340 x y μ (led5 hl0 hX h340)
  have hv : vx_Met l (ax_nm ax_h250) ws250 (ax_rm ax_h250) (va_Pc ([ax_r (some 64), ax_i x, ax_i y, ax_r (some 340)].map (ax_cv G)) (fun U => ax_Hd G μ U.heap ∧ ax_KK G U ∧ KX G U)) (ax_Qc G (QB μ (aLed st x y))) (fun _ _ _ => False) 1 6 (ax_fr G) := by
    refine vx_ofWH (cc := ax_by ax_h250) (maxL := 5) (ret := some .int) (hh := hh250) (by decide +kernel) rfl ?_
    intro p e s m args below meth c s₁ B hml hP
    obtain ⟨rfl, hH, hKK, hKX⟩ := hP
    have hts := atoms_spec (ws := ws250) B.pre
    have htab := vx_table (x := ax_nm ax_h250) B (hts _ List.mem_cons_self)
    have hl := lv_entry ([ax_r (some 64), ax_i x, ax_i y, ax_r (some 340)].map (ax_cv G)) (n := 5) (by rw [ax_len_cv]; exact Nat.le_of_ble_eq_true rfl)
    rw [ax_ent_cv] at hl
    have w := R p e s m _ below meth c ⟨B.exec, B.bytes, B.returns, B.notSynchronized, hml, findClass_of_methodNamed B.named, (name_of_methodNamed B.named B.method).1, fun w hw => hts w (List.mem_cons_of_mem _ hw), hKK⟩ s.heap [] _ hH hl (fun q hq => by cases hq)
    intro T hT X
    rw [lg_entry_eq]
    obtain ⟨t, a1, b1⟩ := w T hT X
    obtain ⟨o, c1, c2, c3, c4⟩ := b1 ⟨hKX, htab⟩
    exact ⟨t, a1, o, c1, c2, Or.inl ⟨c3, c4⟩⟩
  unfold vx_Met at hv
  unfold Met
  refine MetFree.mono hv (fun _ _ q => q) (fun _ _ _ _ _ q => q) ?_
  rintro _ _ _ _ _ (h | ⟨q, -, E, ce, L, hx, -⟩)
  · exact h
  · exact hx.elim
theorem w_250 : Cond.codeWith (ax_nm ax_h250) (ax_by ax_h250) 5 (some .int) hh250 ∈ ax_gw := ax_gwi (i := 1050) (by decide +kernel) rfl
theorem w_250i : Cond.initialized "BiscuitLessLaw" ∈ ax_gw := ax_gwi (i := 110) (by decide +kernel) rfl
theorem w_250l : Cond.methodLink "BiscuitLessLaw" 135 (ax_nm ax_h250) ∈ ax_gw := ax_gwi (i := 1048) (by decide +kernel) rfl
theorem w_250s : Cond.static (ax_nm ax_h250) ∈ ax_gw := ax_gwi (i := 1049) (by decide +kernel) rfl
theorem good250 : GoodIn ax_gw ws250 := by
  intro w hw
  have hm : w ∈ ax_gw := by
    rcases List.mem_cons.mp hw with rfl | hw
    · exact w_250
    · exact hw
  exact ⟨hm, good_of_word (List.mem_filter.mp hm).2⟩
theorem led1374 {l : Launch} (hl0 : l.stackTraces = false) {G : ax_G} {μ : ax_M} {st : St} {x y : Int32} {lv : ax_L} {cl sl : Nat} (hX : X μ st) (h340 : mK μ 340 = 22 ∧ mZ μ 340 = 1) (hc : cl + 1 ≤ 601024) (hs : sl + 6 ≤ 7293033) (kk : ∀ v μ', QB μ (aLed st x y) (some (ax_i v)) μ' → ax_Rw l G ax_h249 (lw_E KX G) 1377 lv [ax_i v] (cl + 1) (sl + 6) μ') : ax_Rw l G ax_h249 (lw_E KX G) 1374 lv [ax_r (some 340), ax_i y, ax_i x, ax_r (some 64)] cl sl μ := fun p e s m args below meth c hx H locs ls hH hl hq => by
  by_cases hK : KX G s
  · obtain ⟨hexec, hb, hr, hlocks, hml, hown, hname, hts, hKK⟩ := id hx
    have d : decode (ax_by ax_h249) 1374 = .ok (.invokestatic 135, 3) := ax_dq_of (by decide +kernel)
    have hpre : PreS s H (va_Pc ([ax_r (some 64), ax_i x, ax_i y, ax_r (some 340)].map (ax_cv G)) (fun U => ax_Hd G μ U.heap ∧ ax_KK G U ∧ KX G U)) ([ax_r (some 64), ax_i x, ax_i y, ax_r (some 340)].map (ax_cv G)) := ⟨blindX, fun U hU hW => ⟨rfl, by rw [hU]; exact hH, hKK.warm hW, hK.warm hW⟩⟩
    have hroom : 2 * (F0 m 1374 ls ([ax_r (some 340), ax_i y, ax_i x, ax_r (some 64)].map (ax_cv G))).monitorRoom + (([] : List Value).map fun v => v.category).sum ≤ 8 := lv_room (by decide)
    have hpd : (parseMethodDescriptor (ax_nm ax_h250).desc).map (fun d => d.parameters.length) = some 4 := by decide +kernel
    have hr := vx_runSW (p := p) (e := e) (R := ax_rm ax_h249) (below := below) (locs := locs) (cells := cl) (slots := sl) (meth := meth) (As := [ax_r (some 64), ax_i x, ax_i y, ax_r (some 340)].map (ax_cv G)) (rest := []) (own := "BiscuitLessLaw") (index := 135) (hh := hh250) (n := 4) (bytes := ax_by ax_h250) (maxL := 5) (ret := some .int) ⟨hexec, hb, hml, hown, hts⟩ (cLawLed hl0 (x := x) (y := y) (G := G) hX h340) ⟨⟨rfl, rfl, by decide, by decide, pay_in hts good250, List.mem_cons_self⟩, hts _ w_250, hts _ w_250i, ⟨by decide, by decide⟩, (fun sig h => by
      rw [h] at hpd
      exact (Option.some.inj hpd).symm), hts _ w_250l, hts _ w_250s⟩ hpre (g := F0 m 1374 ls ([ax_r (some 340), ax_i y, ax_i x, ax_r (some 64)].map (ax_cv G))) rfl rfl hl.1 (by rfl) hroom d ⟨hc, hs⟩
    refine ax_after hr hq (fun xx μ' H1 locs1 hQ hH1 hl1 => ?_)
    have hxx : ∃ v, xx = some (ax_i v) := by
      rcases hQ with ⟨n, -, -, h, -⟩ | ⟨-, h, -⟩
      · exact ⟨_, h⟩
      · exact ⟨_, h⟩
    obtain ⟨v, rfl⟩ := hxx
    exact kk v μ' hQ p e s m args below meth c hx H1 locs1 ls hH1 hl hl1
  · intro T hT X0
    exact ⟨_, Steps.refl _, fun h => absurd h hK⟩
theorem Mx.junk {μ : ax_M} {st : St} (h : Mx μ st) (j : Nat) : Mx (nJ μ j) st := by
  obtain ⟨h1, h2, h3, h4, h5⟩ := h
  refine ⟨h1, h2, ⟨h3.1, by show 341 ≤ mN μ + j; omega⟩, h4, ?_⟩
  rcases h5 with h5 | ⟨a, N, e, hN, hM⟩
  · exact Or.inl h5
  · exact Or.inr ⟨a, N, e, by show N + 18 ≤ mN μ + j; omega, hM⟩
