/-! the law's led: its contract -/
def hh250 : List (Nat × Nat × Nat × Nat) := [(0, 10, 13, 13)]
def ws250 : List Cond := Cond.codeWith (ax_nm ax_h250) (ax_by ax_h250) 5 (some .int) hh250 :: ax_gw
theorem w_165c : Cond.code (ax_nm h165x) (ax_by h165x) 4 (some .int) ∈ ax_gw := ax_code_in (y := 165) (by omega)
theorem w_165l : Cond.methodLink "BiscuitLessLaw" 7 (ax_nm h165x) ∈ ax_gw := ax_gwi (i := 1052) (by decide +kernel) rfl
theorem w_165m : Cond.initialized "BiscuitLess" ∈ ax_gw ∧ Cond.instanceMethod (ax_nm h165x) ∈ ax_gw ∧ Cond.selects "BiscuitLess" (ax_nm h165x) (ax_nm h165x) ∈ ax_gw := by
  obtain ⟨w1, w2, w3, w4, w5, w6⟩ := ax_mw (y := 165) (by omega)
  exact ⟨w1, w3 (by decide +kernel), w4 (by decide +kernel)⟩
theorem w_13 : Cond.classLink "BiscuitLessLaw" 13 nse ∈ ax_gw := ax_gwi (i := 1051) (by decide +kernel) rfl
theorem ns_cast : nsw2[43]? = some (Cond.castable nse nse) := by decide +kernel
theorem good165 : GoodIn ax_gw (ax_gt h165x) := by
  intro w hw
  have hm : w ∈ ax_gw := by
    rcases List.mem_cons.mp hw with rfl | hw
    · exact w_165c
    · exact hw
  exact ⟨hm, good_of_word (List.mem_filter.mp hm).2⟩
def QB (μ : ax_M) (r : Option Nat) : Option ax_V → ax_M → Prop := fun v μ' => (∃ n, r = some n ∧ n < 2 ^ 31 ∧ v = some (ax_i 0) ∧ μ' = sL μ 340 0 (Int32.toInt64 (nI n))) ∨ (r = none ∧ v = some (ax_i 1) ∧ ∃ j, μ' = nJ μ j)
def EB (G : ax_G) (μ : ax_M) (r : Option Nat) : Program → Env → State → MethodId → Array Value → List Frame → Method → Code → State → Prop := fun p e s m args below meth c t => (KX G s ∧ c.exceptionTable.toList = tableOf hh250) → ax_E G ax_h250 (QB μ r) p e s m args below meth c t
theorem blindX {G : ax_G} {as : List Value} {μ : ax_M} : FrameBlind (va_Pc as (fun U => ax_Hd G μ U.heap ∧ ax_KK G U ∧ KX G U)) := fun a U g mk q => ⟨q.1, q.2.1, ax_KK.same (s := U) (U := U.calling g mk a) rfl q.2.2.1, KX.warm (s := U) (U := U.calling g mk a) (State.WarmedH.refl U) q.2.2.2⟩
theorem led5 {l : Launch} (hl0 : l.stackTraces = false) {G : ax_G} {μ : ax_M} {st : St} {x y : Int32} (hX : X μ st) (h340 : mK μ 340 = 22 ∧ mZ μ 340 = 1) : ax_Rw l G ax_h250 (EB G μ (aLed st x y)) 5 [(0, ax_r (some 64)), (1, ax_i x), (2, ax_i y), (3, ax_r (some 340))] [ax_i y, ax_i x, ax_r (some 64), ax_i 0, ax_r (some 340)] 0 0 μ := fun p e s m args below meth c hx H locs ls hH hl hq => by
  by_cases hc : KX G s ∧ c.exceptionTable.toList = tableOf hh250
  · obtain ⟨hKX, htab⟩ := hc
    obtain ⟨hexec, hb, hr, hlocks, hml, hown, hname, hts, hKK⟩ := id hx
    have hcell : ∃ cellB : Cell, H[ax_ad G 64]? = some cellB ∧ cellB.vm.isStatics = false ∧ s.vm.findClass "BiscuitLess" = some cellB.cls := by
      obtain ⟨cell, q1, q2, q3, q4⟩ := (hH.2.2.2.2.1 64 (by omega)).1 (by rw [hX.k64]; omega)
      exact ⟨cell, q1, by rw [q3]; rfl, by rw [q2, hX.k64]; exact (hKK.1 10 (by omega)).2.1⟩
    have hpre : PreV s H "BiscuitLess" (ax_ad G 64) (va_Pc ([ax_r (some 64), ax_i x, ax_i y].map (ax_cv G)) (fun U => ax_Hd G μ U.heap ∧ ax_KK G U ∧ KX G U)) ([ax_i x, ax_i y].map (ax_cv G)) := ⟨blindX, hcell, fun U hU hW => ⟨by show _ = (ax_cv G (ax_r (some 64)) :: [ax_i x, ax_i y].map (ax_cv G)).toArray; rw [ax_cv_some (by omega)], by rw [hU]; exact hH, hKK.warm hW, hKX.warm hW⟩⟩
    have hroom : 2 * (F0 m 5 ls ([ax_i y, ax_i x, ax_r (some 64), ax_i 0, ax_r (some 340)].map (ax_cv G))).monitorRoom + (([ax_i 0, ax_r (some 340)].map (ax_cv G)).map fun v => v.category).sum ≤ 8 := lv_room (by rw [ax_sum_cv]; exact Nat.le_of_ble_eq_true rfl)
    have hst : (F0 m 5 ls ([ax_i y, ax_i x, ax_r (some 64), ax_i 0, ax_r (some 340)].map (ax_cv G))).stack = ([ax_i x, ax_i y].map (ax_cv G)).reverse ++ .ref (ax_ad G 64) :: [ax_i 0, ax_r (some 340)].map (ax_cv G) := by
      show [ax_cv G (ax_i y), ax_cv G (ax_i x), ax_cv G (ax_r (some 64)), ax_cv G (ax_i 0), ax_cv G (ax_r (some 340))] = _
      rw [ax_cv_some (show 64 ≠ 6 by omega)]
      rfl
    have d5 : decode (ax_by ax_h250) 5 = .ok (.invokevirtual 7, 3) := ax_dq_of (by decide +kernel)
    have d13 : decode (ax_by ax_h250) 13 = .ok (.astore 4, 2) := ax_dq_of (by decide +kernel)
    have hin : vp_in 0 (mZ μ 340) := by
      have := in_c (t := 0) h340.2 (by omega) (by omega)
      rw [← q0] at this
      exact this
    have hrun := vx_runV (p := p) (e := e) (R := ax_rm ax_h250) (below := below) (locs := locs) (cells := 0) (slots := 0) (meth := meth) (As := [ax_i x, ax_i y].map (ax_cv G)) (rest := [ax_i 0, ax_r (some 340)].map (ax_cv G)) (own := "BiscuitLessLaw") (index := 7) ⟨hexec, hb, hml, hown, hts⟩ (cLed hl0 (x := x) (y := y) (G := G) hX) ⟨callB_of 2 hts good165 rfl rfl rfl (hts _ w_165m.1) (hts _ w_165l) ⟨by decide, by decide, by decide +kernel⟩ ⟨by decide, by decide⟩, hts _ w_165m.2.1, hts _ w_165m.2.2⟩ hpre (g := F0 m 5 ls ([ax_i y, ax_i x, ax_r (some 64), ax_i 0, ax_r (some 340)].map (ax_cv G))) rfl rfl hl.1 hst hroom d5 ⟨by decide, by decide⟩
    intro T hT X0
    rcases hrun T hT X0 with ⟨v, st₀, t, T', Lc, h0, X', hL, e1, e2, ⟨xx, μ', hv, hQ, hHd⟩, stp⟩ | ⟨q, st₀, t, T', Lc, E, ce, h0, X', hL, e1, e2, ⟨hE, hr0, H0, hH0, hz, hk⟩, hce, hcv, hcl, stp⟩
    · cases hv
      obtain ⟨⟨n, hrn, rfl, hn⟩, rfl⟩ := hQ
      obtain ⟨t2, a1, b1⟩ := sg250_8 l G (QB μ' (aLed st x y)) 340 (nI n) (0 + 1) (0 + 6) [] μ' ⟨⟨by decide, h340.1, hin⟩, ax_gd.mk (by decide) (by decide) (Or.inl ⟨n, hrn, hn, rfl, rfl⟩)⟩ p e s m args below meth c hx T'.heap (locs ++ Lc) ls (by rw [e1]; exact hHd) ⟨hl.1, hl.2.1, fun q h => by cases h⟩ (fun q hq' => by
        rcases List.mem_append.mp hq' with h | h
        · exact hq q h
        · exact hL q h) T' rfl X'
      exact ⟨t2, stp t2 a1, fun _ => b1⟩
    · subst hE
      have hloc : ∀ q ∈ locs ++ Lc, ax_fr G q.base := fun q hq' => by
        rcases List.mem_append.mp hq' with h | h
        · exact hq q h
        · exact hL q h
      have hH1 : ax_Hd G (nJ μ (T'.heap.size - H0.size)) T'.heap := hH0.junk (by rw [e1]; exact hz) (fun q hq => by rw [e1]; exact hk q hq)
      have w13 : W p l e (ax_rm ax_h250) s m args below meth c T'.heap (locs ++ Lc) (0 + 1) (0 + 6) (EB G μ (aLed st x y) p e s m args below meth c) (F0 m 13 ls [.ref q]) := by
        refine lv_astore (lv := []) (lv' := [(4, .ref q)]) hexec hb d13 ⟨hl.1, hl.2.1, fun q h => by cases h⟩ (by decide) rfl (fun ls' hl' => ?_)
        intro T2 hT2 X2
        obtain ⟨t2, a1, b1⟩ := sg250_15 l G (QB μ (aLed st x y)) (0 + 1) (0 + 6) [] (nJ μ (T'.heap.size - H0.size)) (ax_gd.mk (by decide) (by decide) (Or.inr ⟨hr0, rfl, _, rfl⟩)) p e s m args below meth c hx T'.heap (locs ++ Lc) ls' hH1 ⟨hl'.1, hl'.2.1, fun q h => by cases h⟩ hloc T2 hT2 X2
        exact ⟨t2, a1, fun _ => b1⟩
      have wc := vx_catch (p := p) (l := l) (e := e) (R := ax_rm ax_h250) (below := below) (meth := meth) (own := "BiscuitLessLaw") (name := nse) (E := nse) (pc := 5) (ls := ls) (rest := [ax_i 0, ax_r (some 340)].map (ax_cv G)) hown [] ((tableOf hh250).headD default) [] (by rw [htab]; rfl) (fun z hz => by cases hz) (by decide +kernel) (by decide +kernel) (hts _ w_13) (va_Nw.use rfl (hKX.2.2 _ (List.mem_of_getElem? ns_cast))) (by rw [e1]; exact hce) hcv hcl w13
      obtain ⟨t2, a1, b1⟩ := wc T' rfl X'
      exact ⟨t2, stp.trans a1, b1⟩
  · intro T hT X0
    exact ⟨_, Steps.refl _, fun h => absurd h hc⟩
