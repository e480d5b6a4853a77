theorem ax_ac21 : Cond.arrayClass .int ∈ ax_gw := ax_gwi (i := 180) (by decide +kernel) rfl
theorem ax_ac22 : Cond.arrayClass .long ∈ ax_gw := ax_gwi (i := 334) (by decide +kernel) rfl
theorem ax_ac20 : Cond.arrayClass .byte ∈ ax_gw := ax_gwi (i := 1129) (by decide +kernel) rfl
theorem ax_ac23 : Cond.arrayClass .boolean ∈ ax_gw := ax_gwi (i := 1203) (by decide +kernel) rfl
theorem ax_mN_nC (μ : ax_M) (k z : Nat) : mN (nC μ k z) = mN μ + 1 := rfl
theorem ax_mK_nC (μ : ax_M) (k z b : Nat) : mK (nC μ k z) b = if b = mN μ then k else mK μ b := by
  show (if b = μ.1 then (k, z) else μ.2.1 b).1 = _
  unfold mN mK
  split <;> rfl
theorem ax_mZ_nC (μ : ax_M) (k z b : Nat) : mZ (nC μ k z) b = if b = mN μ then z else mZ μ b := by
  show (if b = μ.1 then (k, z) else μ.2.1 b).2 = _
  unfold mN mZ
  split <;> rfl
theorem ax_gI_nC (μ : ax_M) (k z b j : Nat) : gI (nC μ k z) b j = if b = mN μ then 0 else gI μ b j := rfl
theorem ax_gL_nC (μ : ax_M) (k z b j : Nat) : gL (nC μ k z) b j = if b = mN μ then 0 else gL μ b j := rfl
theorem ax_gR_nC (μ : ax_M) (k z b j : Nat) : gR (nC μ k z) b j = if b = mN μ then none else gR μ b j := rfl
section Snd
variable {l : Launch} {G : ax_G} {h : ax_H} {EE : Program → Env → State → MethodId → Array Value → List Frame → Method → Code → State → Prop} {pc : Nat} {lv : ax_L} {st : List ax_V} {cl sl : Nat} {μ : ax_M}
theorem ax_s_new {i ci : Nat} (hd : decode (ax_by h) pc = .ok (.new i, 3)) (hw : Cond.classLink (ax_nm h).cls i (ax_Cn ci) ∈ ax_gw) (hci : ci < 13) (hc : cl + 1 ≤ ax_mc h) (hs : sl + ax_nf ci ≤ ax_ms h) (kk : ax_Rw l G h EE (pc + 3) lv (ax_r (some (mN μ)) :: st) (cl + 1) (sl + ax_nf ci) (nC μ ci 0)) : ax_Rw l G h EE pc lv st cl sl μ := by
  intro p e s m args below meth c hx H locs ls hH hl hq
  obtain ⟨hexec, hb, hr, hlocks, hml, hown, hname, hts, hKK⟩ := id hx
  have hKn := hKK.1 ci hci
  have h64 := hH.1
  have ead : ax_ad G (mN μ) = H.size := by rw [ax_ad_ge h64, hH.2.1]
  refine W.newcK hexec hb hown (hts _ hw) (hts _ (ax_cls_new hci).1) (hts _ (ax_cls_new hci).2) rfl hd hc hs hKn.2.1 rfl fun H1 kC hkC e1 z1 o1 => ?_
  have hob := u_born (ax_fy ci) hts (ax_cls_lay hci) hKn hkC e1 (ax_cls_ty hci)
  obtain ⟨hH1, -⟩ := hH.new ci 0 (H1 := H1) z1 o1 ⟨fun _ => by
    rw [ax_mK_nC, if_pos rfl, ead]
    refine hob.to (fun k hk => ?_)
    rcases ax_cls_sort hci hk with ⟨t1, t2⟩ | ⟨t1, t2⟩ | ⟨⟨t, t1⟩, t2⟩ | ⟨⟨t, t1⟩, t2⟩ <;> rw [t1, t2] <;> simp [ax_fv, ax_gI_nC, ax_gL_nC, ax_gR_nC, ax_ao, va_rf, defaultValue], fun q => by rw [ax_mK_nC, if_pos rfl] at q; omega, by rw [ax_mK_nC, if_pos rfl]; omega⟩
  have k1 := kk p e s m args below meth c hx H1 locs ls hH1 hl hq
  rw [List.map_cons, ax_cv_some (by omega), ead] at k1
  exact k1
theorem ax_s_newa {t : ArrayType} {n : Int32} (hd : decode (ax_by h) pc = .ok (.newarray t, 2)) (ht : ax_ty t ≤ 23) (hn : ¬ n < 0) (h1000 : n.toNatClampNeg ≤ 1000) (hc : cl + 1 ≤ ax_mc h) (hs : sl + n.toNatClampNeg ≤ ax_ms h) (kk : ax_Rw l G h EE (pc + 2) lv (ax_r (some (mN μ)) :: st) (cl + 1) (sl + n.toNatClampNeg) (nC μ (ax_ty t) n.toNatClampNeg)) : ax_Rw l G h EE pc lv (ax_i n :: st) cl sl μ := by
  intro p e s m args below meth c hx H locs ls hH hl hq
  obtain ⟨hexec, hb, hr, hlocks, hml, hown, hname, hts, hKK⟩ := id hx
  have h64 := hH.1
  have ead : ax_ad G (mN μ) = H.size := by rw [ax_ad_ge h64, hH.2.1]
  have hT : ax_aT (ax_ty t) = newarray.typeOf t ∧ 20 ≤ ax_ty t ∧ Cond.arrayClass (newarray.typeOf t) ∈ ax_gw ∧ componentBytes (newarray.typeOf t) ≤ 8 ∧ (∀ cA : ClassId, ∀ U : State, va_RA U cA (newarray.typeOf t) ↔ U.vm.findClass ("[" ++ (newarray.typeOf t).toString) = some cA) := by
    cases t <;> first | (exfalso; revert ht; decide) | exact ⟨rfl, by decide, by first | exact ax_ac20 | exact ax_ac21 | exact ax_ac22 | exact ax_ac23, by decide, fun _ _ => Iff.rfl⟩
  obtain ⟨t1, t2, t3, t4, t5⟩ := hT
  refine va_newaK hexec hb (hts _ t3) rfl hd rfl hn rfl (Nat.le_trans (Nat.mul_le_mul h1000 t4) (by decide)) hc hs rfl fun H1 cA e1 z1 o1 hAr hNm => ?_
  have hcA : cA = ax_Y G (ax_ty t) := by
    have := (hKK.2.1 (ax_ty t) t2 (by omega)).2
    rw [t1, t5] at this
    exact Option.some.inj (hNm.symm.trans this)
  obtain ⟨hH1, -⟩ := hH.new (ax_ty t) n.toNatClampNeg (H1 := H1) z1 o1 ⟨fun q => by rw [ax_mK_nC, if_pos rfl] at q; omega, fun _ _ => by
    rw [ax_mK_nC, if_pos rfl, ax_mZ_nC, if_pos rfl, ead, e1, hcA]
    congr 2
    funext j
    cases t <;> first | (exfalso; revert ht; decide) | simp [ax_ty, ax_av, ax_gI_nC, ax_gL_nC, newarray.typeOf, defaultValue], by rw [ax_mK_nC, if_pos rfl]; omega⟩
  have k1 := kk p e s m args below meth c hx H1 locs ls hH1 hl hq
  rw [List.map_cons, ax_cv_some (by omega), ead] at k1
  exact k1
/-- a heap with one cell more -/
theorem ax_pushed (H : Heap) {x y : Cell} (q : x = y) : (H.push x).size = H.size + 1 ∧ (H.push x)[H.size]? = some y ∧ ∀ i : Nat, i < H.size → (H.push x)[i]? = H[i]? := by
  subst q
  refine ⟨Array.size_push .., Array.getElem?_push_size, fun i hi => ?_⟩
  simp [Array.getElem?_push, Nat.ne_of_lt hi]
theorem ax_s_anew {i ci ki : Nat} {n : Int32} (hd : decode (ax_by h) pc = .ok (.anewarray i, 3)) (hw : Cond.classLink (ax_nm h).cls i (ax_Cn ci) ∈ ax_gw) (hci : ci < 13) (hk1 : 24 ≤ ki) (hk2 : ki ≤ 27) (hT : ax_aT ki = .object (ax_Cn ci)) (hn : ¬ n < 0) (h1000 : n.toNatClampNeg ≤ 1000) (hc : cl + 1 ≤ ax_mc h) (hs : sl + n.toNatClampNeg ≤ ax_ms h) (kk : ax_Rw l G h EE (pc + 3) lv (ax_r (some (mN μ)) :: st) (cl + 1) (sl + n.toNatClampNeg) (nC μ ki n.toNatClampNeg)) : ax_Rw l G h EE pc lv (ax_i n :: st) cl sl μ := by
  intro p e s m args below meth c hx H locs ls hH hl hq
  obtain ⟨hexec, hb, hr, hlocks, hml, hown, hname, hts, hKK⟩ := id hx
  have h64 := hH.1
  have ead : ax_ad G (mN μ) = H.size := by rw [ax_ad_ge h64, hH.2.1]
  refine W.anew hexec hb hown (hts _ hw) (va_AO.use (hKK.2.2.2.2.2.2.1 ki hk1 hk2 ci hci hT)) rfl hd rfl hn (by omega) hc hs fun cA kA comp f1 f2 f3 f4 => ?_
  obtain ⟨z1, e1, o1⟩ := ax_pushed H (arrV_new cA n.toNatClampNeg .null)
  have hcA : cA = ax_Y G ki := by
    have := (hKK.2.1 ki (by omega) (by omega)).2
    rw [hT] at this
    obtain ⟨_, _, _, _, _, h4⟩ := this
    exact Option.some.inj (f1.symm.trans h4)
  obtain ⟨hH1, -⟩ := hH.new ki n.toNatClampNeg (H1 := _) z1 o1 ⟨fun q => by rw [ax_mK_nC, if_pos rfl] at q; omega, fun _ _ => by
    rw [ax_mK_nC, if_pos rfl, ax_mZ_nC, if_pos rfl, ead, e1, hcA]
    congr 2
    funext j
    unfold ax_av
    rw [if_neg (by omega), if_neg (by omega), ax_gR_nC, if_pos rfl]
    rfl, by rw [ax_mK_nC, if_pos rfl]; omega⟩
  have k1 := kk p e s m args below meth c hx _ locs ls hH1 hl hq
  rw [List.map_cons, ax_cv_some (by omega), ead] at k1
  exact k1
/-! calls -/
theorem ax_pop_spec : ∀ (n : Nat) (acc st : List ax_V) {as r : List ax_V}, ax_pop n acc st = some (as, r) → ∃ fs : List ax_V, as = fs.reverse ++ acc ∧ st = fs ++ r ∧ fs.length = n
  | 0, acc, st, as, r, h => by
    cases h
    exact ⟨[], rfl, rfl, rfl⟩
  | n + 1, acc, v :: st, as, r, h => by
    obtain ⟨fs, h1, h2, h3⟩ := ax_pop_spec n (v :: acc) st h
    exact ⟨v :: fs, by rw [h1]; simp, by rw [h2]; rfl, by simp [h3]⟩
  | _ + 1, _, [], _, _, h => by cases h
theorem ax_pop_at {n : Nat} {st as r : List ax_V} (G : ax_G) (h : ax_pop n [] st = some (as, r)) : st.map (ax_cv G) = (as.map (ax_cv G)).reverse ++ r.map (ax_cv G) ∧ (as.map (ax_cv G)).length = n := by
  obtain ⟨fs, h1, h2, h3⟩ := ax_pop_spec n [] st h
  rw [List.append_nil] at h1
  subst h1
  subst h2
  exact ⟨by simp, by simpa using h3⟩
theorem ax_good {y : Nat} (hy : y < 249) : GoodIn ax_gw (ax_gt (ax_tb y)) := by
  intro w hw
  have hm : w ∈ ax_gw := by
    rcases List.mem_cons.mp hw with rfl | hw
    · exact ax_code_in hy
    · exact hw
  exact ⟨hm, good_of_word (List.mem_filter.mp hm).2⟩
theorem ax_blind {G : ax_G} {as : List ax_V} {μ : ax_M} : FrameBlind (ax_Pc G as μ) := fun a U g mk q => ⟨q.1, q.2.1, ax_KK.same (s := U) (U := U.calling g mk a) rfl q.2.2⟩
/-- behind a call -/
theorem ax_after {p : Program} {e : Env} {R : Room} {s : State} {m : MethodId} {args : Array Value} {below : List Frame} {meth : Method} {c : Code} {H : Heap} {locs : List Loc} {cells slots mc ms : Nat} {QQ : State → Prop} {ls : Array Slot} {st0 rest : List Value} {a : Array Value} {Q : Option ax_V → ax_M → Prop} (hr : va_Run p l e R s m args below meth c H locs cells slots mc ms (F0 m pc ls st0) rest (ax_Qc G Q a) (ax_fr G)) (hq : ∀ q ∈ locs, ax_fr G q.base)
    (kk : ∀ (x : Option ax_V) (μ' : ax_M) (H1 : Heap) (locs1 : List Loc), Q x μ' → ax_Hd G μ' H1 → (∀ q ∈ locs1, ax_fr G q.base) → W p l e R s m args below meth c H1 locs1 (cells + mc) (slots + ms) QQ (F0 m (pc + 3) ls ((x.map (ax_cv G)).toList ++ rest))) : W p l e R s m args below meth c H locs cells slots QQ (F0 m pc ls st0) := by
  intro T hT X
  obtain ⟨v, st₀, t, T', L, h0, X', hL, e1, e2, ⟨x, μ', hv, hQ, hHd⟩, st⟩ := hr T hT X
  cases hv
  obtain ⟨t2, a1, b1⟩ := kk x μ' T'.heap (locs ++ L) hQ (by rw [e1]; exact hHd) (fun q hq' => by
    rcases List.mem_append.mp hq' with h | h
    · exact hq q h
    · exact hL q h) T' rfl X'
  exact ⟨t2, st t2 a1, b1⟩
theorem ax_ansW {t : Nat} {st : List ax_V} {K : List ax_V → ax_M → Prop} {x : Option ax_V} {μ' : ax_M} (h : ax_ans t st K x μ') (G : ax_G) : ∃ st' : List ax_V, K st' μ' ∧ st'.map (ax_cv G) = (x.map (ax_cv G)).toList ++ st.map (ax_cv G) := by
  unfold ax_ans at h
  split at h
  · obtain ⟨y, rfl, h⟩ := h
    exact ⟨_, h, rfl⟩
  · obtain ⟨y, rfl, h⟩ := h
    exact ⟨_, h, rfl⟩
  · obtain ⟨rfl, h⟩ := h
    exact ⟨_, h, rfl⟩
theorem ax_mw {y : Nat} (hy : y < 249) : Cond.initialized (ax_nm (ax_tb y)).cls ∈ ax_gw ∧ ((ax_mq y).1 = 1 → Cond.static (ax_nm (ax_tb y)) ∈ ax_gw) ∧ ((ax_mq y).1 ≠ 1 → Cond.instanceMethod (ax_nm (ax_tb y)) ∈ ax_gw) ∧ ((ax_mq y).1 = 2 → Cond.selects (ax_nm (ax_tb y)).cls (ax_nm (ax_tb y)) (ax_nm (ax_tb y)) ∈ ax_gw) ∧ ((ax_mq y).1 = 3 → (ax_nm (ax_tb y)).name = "<init>" ∧ ax_rt (ax_tb y) = none) ∧
    ((ax_nm (ax_tb y)).cls ≠ "java/lang/invoke/MethodHandle" ∧ (ax_nm (ax_tb y)).cls ≠ "java/lang/invoke/VarHandle" ∧ (parseMethodDescriptor (ax_nm (ax_tb y)).desc).map (fun d => d.parameters.length) = some (ax_np (ax_tb y))) := by
  have h := ax_mok_at (show y < 250 by omega)
  have h0 : (ax_mq y).1 ≠ 0 := (show ∀ y, y < 249 → (ax_mq y).1 ≠ 0 by decide +kernel) y hy
  simp only [ax_mok, Bool.or_eq_true, Bool.and_eq_true, decide_eq_true_eq] at h
  rcases h with h | ⟨⟨⟨⟨⟨⟨⟨h1, h2⟩, h3⟩, h4⟩, h5⟩, h6⟩, h7⟩, h8⟩
  · exact absurd h h0
  refine ⟨ax_at?_spec h1, fun e => ?_, fun e => ?_, fun e => ?_, fun e => ?_, h3, h4, h5⟩
  · rw [if_pos e] at h2
    exact ax_at?_spec h2
  · rw [if_neg e, Bool.and_eq_true] at h2
    exact ax_at?_spec h2.1
  · rw [if_neg (by omega), Bool.and_eq_true, if_pos e] at h2
    exact ax_at?_spec h2.2
  · rw [if_neg (by omega), Bool.and_eq_true, if_neg (by omega), Bool.and_eq_true] at h2
    exact ⟨of_decide_eq_true h2.2.1, of_decide_eq_true h2.2.2⟩
theorem ax_rooms {y : Nat} (h1 : ax_room h y = true) : (ax_rm (ax_tb y)).frames + 1 ≤ (ax_rm h).frames ∧ 8 + (ax_ml (ax_tb y) + 11) + (ax_rm (ax_tb y)).locals ≤ (ax_rm h).locals := by
  simp only [ax_room, Bool.and_eq_true] at h1
  exact ⟨Nat.le_of_ble_eq_true h1.1, Nat.le_of_ble_eq_true h1.2⟩
theorem ax_s_calls {i y n : Nat} {as st' : List ax_V} {Q : Option ax_V → ax_M → Prop} (hd : decode (ax_by h) pc = .ok (.invokestatic i, 3)) (hw : ax_wm (ax_oc h, i, y, n) ∈ lw_tbl) (hcn : ax_cn.getD (ax_oc h) "" = (ax_nm h).cls) (hy : y < 249) (hm : (ax_mq y).1 = 1) (hrm : ax_room h y = true) (hpop : ax_pop (ax_np (ax_tb y)) [] st = some (as, st')) (h8 : ax_sum st' ≤ 8) (hc : cl + ax_mc (ax_tb y) ≤ ax_mc h) (hs : sl + ax_ms (ax_tb y) ≤ ax_ms h) (hC : ax_Ct l G y as μ Q)
    (kk : ∀ x μ', Q x μ' → ∃ st2, st2.map (ax_cv G) = (x.map (ax_cv G)).toList ++ st'.map (ax_cv G) ∧ ax_Rw l G h EE (pc + 3) lv st2 (cl + ax_mc (ax_tb y)) (sl + ax_ms (ax_tb y)) μ') : ax_Rw l G h EE pc lv st cl sl μ := by
  intro p e s m args below meth c hx H locs ls hH hl hq
  obtain ⟨hexec, hb, hr, hlocks, hml, hown, hname, hts, hKK⟩ := id hx
  obtain ⟨w1, w2, w3, w4, w5, w6⟩ := ax_mw hy
  obtain ⟨e1, e2⟩ := ax_pop_at G hpop
  have hyn : ax_yn y = ax_nm (ax_tb y) := by
    unfold ax_yn
    rw [if_neg (by omega), if_neg (by omega), if_neg (by omega), if_neg (by omega), if_neg (by omega)]
  have hpre : PreS s H (ax_Pc G as μ) (as.map (ax_cv G)) := ⟨ax_blind, fun U hU hW => ⟨rfl, by rw [hU]; exact hH, hKK.warm hW⟩⟩
  have hst : (F0 m pc ls (st.map (ax_cv G))).stack = (as.map (ax_cv G)).reverse ++ st'.map (ax_cv G) := e1
  have hroom : 2 * (F0 m pc ls (st.map (ax_cv G))).monitorRoom + ((st'.map (ax_cv G)).map fun v => v.category).sum ≤ 8 := lv_room (by rw [ax_sum_cv]; exact h8)
  have fin : ∀ (x : Option ax_V) (μ' : ax_M) (H1 : Heap) (locs1 : List Loc), Q x μ' → ax_Hd G μ' H1 → (∀ q ∈ locs1, ax_fr G q.base) → W p l e (ax_rm h) s m args below meth c H1 locs1 (cl + ax_mc (ax_tb y)) (sl + ax_ms (ax_tb y)) (EE p e s m args below meth c) (F0 m (pc + 3) ls ((x.map (ax_cv G)).toList ++ st'.map (ax_cv G))) := fun x μ' H1 locs1 hQ hH1 hl1 => by
    obtain ⟨st2, g1, g2⟩ := kk x μ' hQ
    rw [← g1]
    exact g2 p e s m args below meth c hx H1 locs1 ls hH1 hl hl1
  unfold ax_wm at hw
  simp only [hcn, hyn] at hw
  split at hw
  · have hl2 := hts _ (ax_gwf hw rfl)
    exact ax_after (va_runS (As := as.map (ax_cv G)) (rest := st'.map (ax_cv G)) ⟨hexec, hb, hml, hown, hts⟩ hC ⟨callB_of (ax_np (ax_tb y)) hts (ax_good hy) rfl rfl rfl (hts _ w1) hl2 w6 (ax_rooms hrm), hts _ (w2 hm)⟩ hpre rfl e2 hl.1 hst hroom hd ⟨hc, hs⟩) hq fin
  · have hl2 := hKK.2.2.1 _ hw rfl
    exact ax_after (va_runSN (As := as.map (ax_cv G)) (rest := st'.map (ax_cv G)) ⟨hexec, hb, hml, hown, hts⟩ hC ⟨va_cnB (ax_np (ax_tb y)) hts (ax_good hy) rfl rfl rfl hl2 (hts _ w1) w6 (ax_rooms hrm), hts _ (w2 hm), trivial⟩ hpre rfl e2 hl.1 hst hroom hd ⟨hc, hs⟩) hq fin
theorem ax_s_calli {i y n a : Nat} {as st' : List ax_V} {Q : Option ax_V → ax_M → Prop} (hd : decode (ax_by h) pc = .ok (.invokespecial i, 3)) (hw : ax_wm (ax_oc h, i, y, n) ∈ lw_tbl) (hcn : ax_cn.getD (ax_oc h) "" = (ax_nm h).cls) (hy : y < 249) (hm : (ax_mq y).1 = 3) (hrm : ax_room h y = true) (hpop : ax_pop (ax_np (ax_tb y)) [] st = some (as, ax_r (some a) :: st')) (ha : 64 ≤ a) (h8 : ax_sum st' ≤ 8) (hc : cl + ax_mc (ax_tb y) ≤ ax_mc h) (hs : sl + ax_ms (ax_tb y) ≤ ax_ms h) (hC : ax_Ct l G y (ax_r (some a) :: as) μ Q)
    (kk : ∀ x μ', Q x μ' → ∃ st2, st2.map (ax_cv G) = (x.map (ax_cv G)).toList ++ st'.map (ax_cv G) ∧ ax_Rw l G h EE (pc + 3) lv st2 (cl + ax_mc (ax_tb y)) (sl + ax_ms (ax_tb y)) μ') : ax_Rw l G h EE pc lv st cl sl μ := by
  intro p e s m args below meth c hx H locs ls hH hl hq
  obtain ⟨hexec, hb, hr, hlocks, hml, hown, hname, hts, hKK⟩ := id hx
  obtain ⟨w1, w2, w3, w4, w5, w6⟩ := ax_mw hy
  obtain ⟨w5a, w5b⟩ := w5 hm
  obtain ⟨e1, e2⟩ := ax_pop_at G hpop
  rw [List.map_cons, ax_cv_some (by omega)] at e1
  have hyn : ax_yn y = ax_nm (ax_tb y) := by
    unfold ax_yn
    rw [if_neg (by omega), if_neg (by omega), if_neg (by omega), if_neg (by omega), if_neg (by omega)]
  have hpre : PreS s H (ax_Pc G (ax_r (some a) :: as) μ) (.ref (ax_ad G a) :: as.map (ax_cv G)) := ⟨ax_blind, fun U hU hW => ⟨by rw [List.map_cons, ax_cv_some (by omega)], by rw [hU]; exact hH, hKK.warm hW⟩⟩
  have hst : (F0 m pc ls (st.map (ax_cv G))).stack = (as.map (ax_cv G)).reverse ++ .ref (ax_ad G a) :: st'.map (ax_cv G) := e1
  have hroom : 2 * (F0 m pc ls (st.map (ax_cv G))).monitorRoom + ((st'.map (ax_cv G)).map fun v => v.category).sum ≤ 8 := lv_room (by rw [ax_sum_cv]; exact h8)
  have fin : ∀ (x : Option ax_V) (μ' : ax_M) (H1 : Heap) (locs1 : List Loc), Q x μ' → ax_Hd G μ' H1 → (∀ q ∈ locs1, ax_fr G q.base) → W p l e (ax_rm h) s m args below meth c H1 locs1 (cl + ax_mc (ax_tb y)) (sl + ax_ms (ax_tb y)) (EE p e s m args below meth c) (F0 m (pc + 3) ls ((x.map (ax_cv G)).toList ++ st'.map (ax_cv G))) := fun x μ' H1 locs1 hQ hH1 hl1 => by
    obtain ⟨st2, g1, g2⟩ := kk x μ' hQ
    rw [← g1]
    exact g2 p e s m args below meth c hx H1 locs1 ls hH1 hl hl1
  have hgt : ax_gt (ax_tb y) = Cond.code (ax_nm (ax_tb y)) (ax_by (ax_tb y)) (ax_ml (ax_tb y)) none :: ax_gw := by
    show Cond.code _ _ _ (ax_rt (ax_tb y)) :: ax_gw = _
    rw [w5b]
  unfold ax_wm at hw
  simp only [hcn, hyn] at hw
  split at hw
  · have hl2 := hts _ (ax_gwf hw rfl)
    exact ax_after (va_runI (As := as.map (ax_cv G)) (rest := st'.map (ax_cv G)) ⟨hexec, hb, hml, hown, hts⟩ hC ⟨callB_of (ax_np (ax_tb y)) hts (ax_good hy) hgt rfl rfl (hts _ w1) hl2 w6 (ax_rooms hrm), w5a, hts _ (w3 (by omega))⟩ hpre rfl e2 hl.1 hst hroom hd ⟨hc, hs⟩) hq fin
  · have hl2 := hKK.2.2.1 _ hw rfl
    exact ax_after (va_runIN (As := as.map (ax_cv G)) (rest := st'.map (ax_cv G)) ⟨hexec, hb, hml, hown, hts⟩ hC ⟨va_cnB (ax_np (ax_tb y)) hts (ax_good hy) hgt rfl rfl hl2 (hts _ w1) w6 (ax_rooms hrm), w5a, hts _ (w3 (by omega))⟩ hpre rfl e2 hl.1 hst hroom hd ⟨hc, hs⟩) hq fin
theorem ax_s_callv {i y n a ci : Nat} {as st' : List ax_V} {Q : Option ax_V → ax_M → Prop} (hd : decode (ax_by h) pc = .ok (.invokevirtual i, 3)) (hw : ax_wm (ax_oc h, i, y, n) ∈ lw_tbl) (hcn : ax_cn.getD (ax_oc h) "" = (ax_nm h).cls) (hy : y < 249) (hm : (ax_mq y).1 = 2) (hrm : ax_room h y = true) (hpop : ax_pop (ax_np (ax_tb y)) [] st = some (as, ax_r (some a) :: st')) (hK : mK μ a = ci) (hci : (ci < 13 ∧ ax_Cn ci = (ax_nm (ax_tb y)).cls) ∨ (ci = 13 ∧ (ax_nm (ax_tb y)).cls = "java/lang/String")) (h8 : ax_sum st' ≤ 8) (hc : cl + ax_mc (ax_tb y) ≤ ax_mc h) (hs : sl + ax_ms (ax_tb y) ≤ ax_ms h) (hC : ax_Ct l G y (ax_r (some a) :: as) μ Q)
    (kk : ∀ x μ', Q x μ' → ∃ st2, st2.map (ax_cv G) = (x.map (ax_cv G)).toList ++ st'.map (ax_cv G) ∧ ax_Rw l G h EE (pc + 3) lv st2 (cl + ax_mc (ax_tb y)) (sl + ax_ms (ax_tb y)) μ') : ax_Rw l G h EE pc lv st cl sl μ := by
  intro p e s m args below meth c hx H locs ls hH hl hq
  obtain ⟨hexec, hb, hr, hlocks, hml, hown, hname, hts, hKK⟩ := id hx
  obtain ⟨w1, w2, w3, w4, w5, w6⟩ := ax_mw hy
  obtain ⟨e1, e2⟩ := ax_pop_at G hpop
  have n6 : a ≠ 6 := hH.n6 hKK (by rcases hci with ⟨q, -⟩ | ⟨q, -⟩ <;> omega)
  rw [List.map_cons, ax_cv_some n6] at e1
  have hyn : ax_yn y = ax_nm (ax_tb y) := by
    unfold ax_yn
    rw [if_neg (by omega), if_neg (by omega), if_neg (by omega), if_neg (by omega), if_neg (by omega)]
  have hcell : ∃ cellB : Cell, H[ax_ad G a]? = some cellB ∧ cellB.vm.isStatics = false ∧ s.vm.findClass (ax_nm (ax_tb y)).cls = some cellB.cls := by
    rcases hci with ⟨hc13, hC⟩ | ⟨hc13, hC⟩
    · have ha := ax_big hH hKK (a := a) (by omega)
      obtain ⟨cell, q1, q2, q3, q4⟩ := (hH.2.2.2.2.1 a ha).1 (by omega)
      exact ⟨cell, q1, by rw [q3]; rfl, by rw [← hC, q2, hK]; exact (hKK.1 ci hc13).2.1⟩
    · have ha : a < 64 := by
        rcases Nat.lt_or_ge a 64 with q | q
        · exact q
        · exact absurd (hK.trans hc13) (hH.2.2.2.2.1 a q).2.2
      obtain ⟨h2, -, -⟩ := (hKK.2.2.2.2.2.1 a ha).2.1 ((hH.k0 ha).1.symm.trans (hK.trans hc13))
      have hsz : (ax_Hb G).size = ax_B G := hKK.2.2.2.2.2.2.2.1
      obtain ⟨cell, g1, g2, g3, -⟩ := h2.kept (H1 := H) (fun q _ hq => hH.2.2.1 q (by omega))
      exact ⟨cell, by rw [ax_ad_lt ha]; exact g1, g2, by rw [hC]; exact g3⟩
  have hpre : PreV s H (ax_nm (ax_tb y)).cls (ax_ad G a) (ax_Pc G (ax_r (some a) :: as) μ) (as.map (ax_cv G)) := ⟨ax_blind, hcell, fun U hU hW => ⟨by rw [List.map_cons, ax_cv_some n6], by rw [hU]; exact hH, hKK.warm hW⟩⟩
  have hst : (F0 m pc ls (st.map (ax_cv G))).stack = (as.map (ax_cv G)).reverse ++ .ref (ax_ad G a) :: st'.map (ax_cv G) := e1
  have hroom : 2 * (F0 m pc ls (st.map (ax_cv G))).monitorRoom + ((st'.map (ax_cv G)).map fun v => v.category).sum ≤ 8 := lv_room (by rw [ax_sum_cv]; exact h8)
  have fin : ∀ (x : Option ax_V) (μ' : ax_M) (H1 : Heap) (locs1 : List Loc), Q x μ' → ax_Hd G μ' H1 → (∀ q ∈ locs1, ax_fr G q.base) → W p l e (ax_rm h) s m args below meth c H1 locs1 (cl + ax_mc (ax_tb y)) (sl + ax_ms (ax_tb y)) (EE p e s m args below meth c) (F0 m (pc + 3) ls ((x.map (ax_cv G)).toList ++ st'.map (ax_cv G))) := fun x μ' H1 locs1 hQ hH1 hl1 => by
    obtain ⟨st2, g1, g2⟩ := kk x μ' hQ
    rw [← g1]
    exact g2 p e s m args below meth c hx H1 locs1 ls hH1 hl hl1
  unfold ax_wm at hw
  simp only [hcn, hyn] at hw
  split at hw
  · have hl2 := hts _ (ax_gwf hw rfl)
    exact ax_after (va_runV (As := as.map (ax_cv G)) (rest := st'.map (ax_cv G)) ⟨hexec, hb, hml, hown, hts⟩ hC ⟨callB_of (ax_np (ax_tb y)) hts (ax_good hy) rfl rfl rfl (hts _ w1) hl2 w6 (ax_rooms hrm), hts _ (w3 (by omega)), hts _ (w4 hm)⟩ hpre rfl e2 hl.1 hst hroom hd ⟨hc, hs⟩) hq fin
  · have hl2 := hKK.2.2.1 _ hw rfl
    exact ax_after (va_runVN (As := as.map (ax_cv G)) (rest := st'.map (ax_cv G)) ⟨hexec, hb, hml, hown, hts⟩ hC ⟨va_cnB (ax_np (ax_tb y)) hts (ax_good hy) rfl rfl rfl hl2 (hts _ w1) w6 (ax_rooms hrm), hts _ (w3 (by omega)), hts _ (w4 hm)⟩ hpre rfl e2 hl.1 hst hroom hd ⟨hc, hs⟩) hq fin
end Snd
