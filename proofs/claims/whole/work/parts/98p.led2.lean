/-! led: its contract -/
def rx28 : ByteArray := prog_28_method_4_code
def nsw2 : List Cond := ax_atX "BiscuitLess" 265 nse 13 rx28 "java/lang/RuntimeException" ["java/lang/Exception"]
def nsp : List Nat := [130, 1086, 1095, 1097, 1100, 1102, 1087, 1088, 140, 141, 1089, 1094, 1098, 1118, 1076, 1119, 1078, 1120, 1080, 1090, 1092, 1082, 1114, 1115, 1117, 1082, 1105, 1106, 1107, 1108, 1068, 1108, 1109, 1110, 1111, 1070, 1111, 1112, 1113, 1114, 1072, 1104, 1065, 1066, 1073, 1074, 1075, 1077, 1079, 1081, 1085, 1084, 1083]
theorem nsw2_ok : ax_all (fun w => w) nsw2 nsp = true := by decide +kernel
theorem nsw2_l : nsw2.length = nsp.length := by decide +kernel
theorem nsw2_in {w : Cond} (h : w ∈ nsw2) : w ∈ lw_tbl := by
  obtain ⟨j, hj⟩ := List.mem_iff_getElem?.mp h
  exact ax_of_all nsw2_ok nsw2_l hj
theorem nsw2_b : nsw2.all (fun w => goodWord w || nsb w) = true := by decide +kernel
theorem nsw2_t : nsw2.all (fun w => w.onTables) = true := by decide +kernel
theorem nsw2_g : (Cond.classLink "BiscuitLess" 261 nse :: Cond.initialized nse :: nsw2).all (fun w => vx_ot w) = true := by decide +kernel
theorem ns_cl : Cond.classLink "BiscuitLess" 261 nse ∈ ax_gw := ax_gwi (i := 1064) (by decide +kernel) rfl
theorem ns_in : Cond.initialized nse ∈ ax_gw := ax_gwi (i := 133) (by decide +kernel) rfl
/-- what a throw needs of the start -/
def KX (G : ax_G) (U : State) : Prop := (vx_Zq Bundle.tN "UNASSIGNED_STACK" Bundle.steD (ax_fr G) U (ax_Hb G) ∧ vx_Zq Bundle.tN "SUPPRESSED_SENTINEL" Bundle.listD (ax_fr G) U (ax_Hb G)) ∧ (∃ sa, vk_R "BiscuitLess" 263 "no such month" sa U) ∧ ∀ w ∈ nsw2, va_Nw w U
theorem KX.warm {G : ax_G} {s U : State} (hW : s.WarmedH U.vm) (h : KX G s) : KX G U := by
  obtain ⟨⟨h1, h2⟩, ⟨sa, h3⟩, h4⟩ := h
  refine ⟨⟨h1.moved hW.alike, h2.moved hW.alike⟩, ⟨sa, h3.warm hW⟩, fun w hw => ?_⟩
  have b := List.all_eq_true.mp nsw2_b w hw
  have k := h4 w hw
  rcases Bool.or_eq_true _ _ |>.mp b with g | g
  · exact word_at hW (good_of_word g) k
  · cases w with
    | castable => exact va_Nw.warmC hW k
    | declares => exact va_Nw.warmD hW k
    | _ => exfalso; revert g; simp [nsb]
theorem ledF_neg {f : Nat → Bool} {x : Int32} (hx : x < 0) : ∀ k m n, n + k < 2 ^ 31 → ledF f x k m n = none
  | 0, _, _, _ => rfl
  | k + 1, m, n, h => by
    have hne : ¬ nI n = x := fun e => by
      have := nI_pos (show n < 2 ^ 31 by omega)
      rw [e] at this
      exact this hx
    unfold ledF
    split
    · exact ledF_neg hx k (m + 1) (n + 1) (by omega)
    · exact ledF_neg hx k (m + 1) n (by omega)
theorem led_neg {a : Ld} {h : Nat} {x : Int32} (ha : nMo a ≤ 12) (hx : x < 0) : led a h x = none := ledF_neg hx _ _ _ (by omega)
theorem ledF_lt {f : Nat → Bool} {x : Int32} : ∀ k m n {j : Nat}, ledF f x k m n = some j → j < m + k
  | 0, _, _, _, h => by cases h
  | k + 1, m, n, j, h => by
    unfold ledF at h
    split at h
    · split at h
      · cases h; omega
      · have := ledF_lt k (m + 1) (n + 1) h; omega
    · have := ledF_lt k (m + 1) n h; omega
theorem led_lt {a : Ld} {h : Nat} {x : Int32} {n : Nat} (e : led a h x = some n) (ha : nMo a ≤ 12) : n < 2 ^ 31 := by
  have := ledF_lt _ _ _ e
  omega
def QL (μ : ax_M) (r : Option Nat) : Option ax_V → ax_M → Prop := fun v μ' => (∃ n, r = some n ∧ v = some (ax_i (nI n)) ∧ n < 2 ^ 31) ∧ μ' = μ
def XL (G : ax_G) (μ : ax_M) (r : Option Nat) : String → State → State → Prop := fun E _ t => E = nse ∧ r = none ∧ ∃ H : Heap, ax_Hd G μ H ∧ H.size ≤ t.heap.size ∧ ∀ q : Nat, q < H.size → t.heap[q]? = H[q]?
def EL (G : ax_G) (μ : ax_M) (r : Option Nat) : Program → Env → State → MethodId → Array Value → List Frame → Method → Code → State → Prop := fun _ _ s _ args below _ c t => (KX G s ∧ (∀ x ∈ c.exceptionTable.toList, False) ∧ ax_Hd G μ s.heap) → vx_MQ below (ax_Qc G (QL μ r)) (XL G μ r) args s 1 6 (ax_fr G) t
theorem led45 {l : Launch} {G : ax_G} {μ : ax_M} {r : Option Nat} {n : Nat} (hr : r = some n) (hn : n < 2 ^ 31) : ax_Rw l G h165x (EL G μ r) 45 [(3, ax_i (nI n))] [] 0 0 μ := fun p e s m args below meth c hx H locs ls hH hl hq T hT X => by
  obtain ⟨t, a1, o, b1, b2, b3, b4⟩ := sg165x_45 l G (QL μ r) (nI n) μ ⟨⟨n, hr, rfl, hn⟩, rfl⟩ p e s m args below meth c hx H locs ls hH hl hq T hT X
  exact ⟨t, a1, fun _ => ⟨o, b1, b2, Or.inl ⟨b3, b4⟩⟩⟩
theorem led34 {l : Launch} (hl0 : l.stackTraces = false) {G : ax_G} {μ : ax_M} {r : Option Nat} (hr : r = none) {lv : ax_L} : ax_Rw l G h165x (EL G μ r) 34 lv [] 0 0 μ := fun p e s m args below meth c hx H locs ls hH hl hq => by
  by_cases hc : KX G s ∧ (∀ x ∈ c.exceptionTable.toList, False) ∧ ax_Hd G μ s.heap
  · obtain ⟨⟨⟨hU, hN⟩, ⟨sa, hstr⟩, hw⟩, hno, hHs⟩ := hc
    obtain ⟨hexec, hb, hr0, hlocks, hml, hown, hname, hts, hKK⟩ := id hx
    have hB : ax_Hb G = ax_Hb G := rfl
    have hsz : s.heap.size = H.size := by rw [hHs.2.1, hH.2.1]
    have hSz : (ax_Hb G).size = ax_B G := hKK.2.2.2.2.2.2.2.1
    have kp : ∀ a : Nat, a < (ax_Hb G).size → ¬ ax_fr G a → s.heap[a]? = (ax_Hb G)[a]? := fun a ha _ => hHs.2.2.1 a (by rw [← hSz]; exact ha)
    have hS : va_S (ax_fr G) s.heap H locs := ⟨by rw [hsz]; exact Nat.le_refl _, fun q _ hq' => by
      have hq' : ¬ ax_B G ≤ q := hq'
      rw [hH.2.2.1 q (by omega), hHs.2.2.1 q (by omega)], hq⟩
    have w := ax_throwX (p := p) (e := e) (R := ax_rm h165x) (below := below) (cells := 0) (slots := 0) (rest := []) (Qc := ax_Qc G (QL μ r)) (XC := XL G μ r) (free := ax_fr G) (mc := 1) (ms := 6) (A := ax_fr G) (own := "BiscuitLess") (cls := nse) (text := "no such month") (Y := "java/lang/RuntimeException") (r := ["java/lang/Exception"]) (ik := 261) (is := 263) (ic := 265) (ix := 13) (rx := rx28) (pc := 34) hexec hb hl0 ⟨by rfl, by rfl, by rfl, by rfl⟩ hown (by decide +kernel) (hts _ ns_cl) (hts _ ns_in) hstr (fun w hw' => va_Nw.use (List.all_eq_true.mp nsw2_t w hw') (hw w hw')) (fun w hw' => List.all_eq_true.mp nsw2_g w hw') (hU.kept kp) (hN.kept kp) hS (hl.1.trans hml.symm) (ax_dq_of (by decide +kernel)) (ax_dq_of (by decide +kernel)) (ax_dq_of (by decide +kernel)) (ax_dq_of (by decide +kernel)) (ax_dq_of (by decide +kernel)) (fun x hx' => (hno x hx').elim) (by decide) (by decide) (by decide) (by decide) hlocks (fun t _ h1 h2 => ⟨rfl, hr, H, hH, h1, h2⟩) hq (by decide) (by decide)
    intro T hT X
    obtain ⟨t, a1, b1⟩ := w T hT X
    exact ⟨t, a1, fun _ => b1⟩
  · intro T hT X
    exact ⟨_, Steps.refl _, fun h => absurd h hc⟩
theorem cLed {l : Launch} (hl0 : l.stackTraces = false) {G : ax_G} {μ : ax_M} {st : St} {x y : Int32} (hX : X μ st) : vx_Met l (ax_nm h165x) (ax_gt h165x) (ax_rm h165x) (va_Pc ([ax_r (some 64), ax_i x, ax_i y].map (ax_cv G)) (fun U => ax_Hd G μ U.heap ∧ ax_KK G U ∧ KX G U)) (ax_Qc G (QL μ (aLed st x y))) (XL G μ (aLed st x y)) 1 6 (ax_fr G) := by
  have R : ax_Rw l G h165x (EL G μ (aLed st x y)) 0 (ax_ent 0 [ax_r (some 64), ax_i x, ax_i y]) [] 0 0 μ := by
    obtain ⟨L, M, hw⟩ := hX
    have hT := hw.1.1
    have hLk : mK μ L = 3 := hw.1.2.2.2.1.k
    have h9 : gI μ L 9 = nI (cn st 5) := (hw.2.2.2.2.2.1 5 (by omega)).1
    refine sg165x_0 l G (EL G μ (aLed st x y)) 64 x y μ ⟨hT.1, wr_c hT.2.2.1 ⟨hLk, d21 hLk h9 ?_⟩⟩
    cases hin : inN x (cn st 5) with
    | false =>
      rw [br_T (show bI false = 0 from rfl), br_T rfl]
      exact led34 hl0 (by unfold aLed; rw [hin]; rfl)
    | true =>
      rw [br_F (show ¬ bI true = 0 by decide)]
      have hlt : cn st 5 ≤ 20 := (hw.2.2.2.2.2.1 5 (by omega)).2
      obtain ⟨h, hh, rfl⟩ := inN_t (by omega) hin
      have hla := cn_t hh
      have hTN := hw.2.2.2.2.2.2 _ hla
      have hbd := hTN.bd
      have e5 : cn st 5 = nHo (ldo st) := by unfold cn; rw [hla]
      have er : aLed st (nI h) y = led (ldo st) h y := by unfold aLed; rw [hin, cl_nI (by omega)]; rfl
      by_cases hy : y < 0
      · rw [br_T hy, br_T rfl]
        exact led34 hl0 (by rw [er]; exact led_neg (by omega) hy)
      · rw [br_F hy]
        refine ⟨hT.1, wr_c hT.2.2.2.2.2.1 ⟨hw.1.2.2.2.2.2.1.k, d138 hTN.1.1.1 (by omega) ?_⟩⟩
        cases hd : led (ldo st) h y with
        | none =>
          rw [br_T (show ((none : Option Nat).elim (-1) nI : Int32) = -1 from rfl)]
          exact led34 hl0 (by rw [er, hd])
        | some n =>
          have hn : n < 2 ^ 31 := led_lt hd (by omega)
          rw [br_F (show ¬ ((some n : Option Nat).elim (-1) nI : Int32) = -1 from fun e => by
            have q := nI_pos hn
            have e : nI n = -1 := e
            rw [e] at q
            exact q (by decide))]
          exact led45 (by rw [er, hd]) hn
  refine vx_ofW (cc := ax_by h165x) (maxL := 4) (ret := some .int) (by decide +kernel) rfl ?_
  intro p e s m args below meth c s₁ B hml hno hP
  obtain ⟨rfl, hH, hKK, hKX⟩ := hP
  have hts := atoms_spec (ws := ax_gt h165x) B.pre
  have hl := lv_entry ([ax_r (some 64), ax_i x, ax_i y].map (ax_cv G)) (n := 4) (by rw [ax_len_cv]; exact Nat.le_of_ble_eq_true rfl)
  rw [ax_ent_cv] at hl
  have w := R p e s m _ below meth c ⟨B.exec, B.bytes, B.returns, B.notSynchronized, hml, findClass_of_methodNamed B.named, (name_of_methodNamed B.named B.method).1, fun w hw => hts w (List.mem_cons_of_mem _ hw), hKK⟩ s.heap [] _ hH hl (fun q hq => by cases hq)
  intro T hT X
  rw [lg_entry_eq]
  obtain ⟨t, a1, b1⟩ := w T hT X
  exact ⟨t, a1, b1 ⟨hKX, hno, hH⟩⟩
