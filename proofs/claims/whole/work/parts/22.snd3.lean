section Snd
variable {l : Launch} {G : ax_G} {h : ax_H} {EE : Program → Env → State → MethodId → Array Value → List Frame → Method → Code → State → Prop} {pc : Nat} {lv : ax_L} {st : List ax_V} {cl sl : Nat} {μ : ax_M}
theorem ax_locs {G : ax_G} {locs : List Loc} {a i : Nat} (h : ∀ q ∈ locs, ax_fr G q.base) (ha : 64 ≤ a) : ∀ q ∈ locs ++ [(⟨ax_ad G a, i⟩ : Loc)], ax_fr G q.base := by
  intro q hq
  rcases List.mem_append.mp hq with q1 | q1
  · exact h q q1
  · rw [List.mem_singleton] at q1
    subst q1
    show ax_B G ≤ ax_ad G a
    rw [ax_ad_ge ha]
    omega
/-- a final field's declarer is the class where it is found -/
theorem ax_ownF {A : Array Value} {s : State} {C O n d : String} {x : ClassId × Class × Nat × Field} (hl : (Cond.laysFinal C O n d).before A s = true) (hi : s.fieldFound? O n d = some x) : s.vm.findClass O = some x.1 :=
  match Cond.laysFinal_spec hl with
  | ⟨_, _, _, _, _, _, w⟩ => (Option.some.inj (hi.symm.trans w.2.2.1)) ▸ w.2.2.2.2.2.2.1
theorem ax_s_put {i ci k n a : Nat} {v : ax_V} {μ' : ax_M} (hd : decode (ax_by h) pc = .ok (.putfield i, 3)) (hw : ax_wf (ax_oc h, i, ci, k, n) ∈ lw_tbl) (hcn : ax_cn.getD (ax_oc h) "" = (ax_nm h).cls) (hci : ci < 13) (hk : k < ax_nf ci) (hf : (ax_Tb ci k).2.2.2 = true → n = 0 ∧ (ax_nm h).name = "<init>" ∧ ax_Cn ci = (ax_nm h).cls)
    (hK : mK μ a = ci) (ha : 64 ≤ a) (hn : narrow (ax_fy ci k) (ax_cv G v) = ax_cv G v) (hfit : fits (ax_fy ci k) (ax_cv G v) = true)
    (hset : ∀ H H1 : Heap, ax_Hd G μ H → H1.size = H.size → (∀ q : Nat, q ≠ ax_ad G a → H1[q]? = H[q]?) → t_OB (ax_ad G a) ((ax_D G).1 (mK μ a)) (ax_nf (mK μ a)) ((ax_D G).2 (mK μ a)) H1 (updV (fun j => ax_fv G μ a j (ax_ft (mK μ a) j)) k (ax_cv G v)) → ax_Hd G μ' H1)
    (kk : ax_Rw l G h EE (pc + 3) lv st cl sl μ') : ax_Rw l G h EE pc lv (v :: ax_r (some a) :: st) cl sl μ := by
  intro p e s m args below meth c hx H locs ls hH hl hq
  obtain ⟨hexec, hb, hr, hlocks, hml, hown, hname, hts, hKK⟩ := id hx
  rw [List.map_cons, List.map_cons, ax_cv_some (by omega)]
  obtain ⟨cell, q1, q2, q3, q4⟩ := (hH.2.2.2.2.1 a ha).1 (by omega)
  have q2' := q2
  have q4' := q4
  rw [hK] at q2' q4'
  obtain ⟨hS, hfc, kC, hkC, hkind⟩ := hKK.1 ci hci
  obtain ⟨cf, kf, fi, f, hi, hsl⟩ := hS k hk
  have hin := ax_cls_lay hci
  have hst := (u_facts hfc hkC (u_lays hts hin hk) hi).1
  have hap : ∀ x y, x < ax_nf ci → y < ax_nf ci → x ≠ y → (ax_D G).2 ci x ≠ (ax_D G).2 ci y := by
    intro x y hx0 hy hne
    obtain ⟨_, _, _, fa, hia, ea⟩ := hS x hx0
    obtain ⟨_, _, _, fb, hib, eb⟩ := hS y hy
    rw [← ea, ← eb]
    refine u_apart (u_lays hts hin hx0) (u_lays hts hin hy) hia hib ?_
    rw [(State.fieldFound?_type hia (ax_cls_ty hci x hx0)).1, (State.fieldFound?_type hib (ax_cls_ty hci y hy)).1]
    exact ax_cls_nm hci x hx0 y hy hne
  have hlay := hts _ (hin _ (u_in_lay hk))
  have hlt : f.slot < cell.slots.size := by rw [hsl]; exact k2_hasslot (q4' k hk)
  have hd' := ax_cls_ty hci k hk
  have fin : ∀ H' : Heap, H'[ax_ad G a]? = some (cell.setSlot f.slot (ax_cv G v)) → H'.size = H.size → (∀ q, q ≠ ax_ad G a → H'[q]? = H[q]?) → W p l e (ax_rm h) s m args below meth c H' (locs ++ [⟨ax_ad G a, f.slot⟩]) cl sl (EE p e s m args below meth c) (F0 m (pc + 3) ls (st.map (ax_cv G))) := by
    intro H' e1 e2 e3
    rw [hsl] at e1
    refine kk p e s m args below meth c hx H' _ ls (hset H H' hH e2 e3 ?_) hl (ax_locs hq ha)
    rw [hK]
    exact ⟨_, e1, q2', q3, t_set q4' hap hk _⟩
  unfold ax_wf at hw
  rw [ax_fnT hci] at hw
  simp only [hcn] at hw
  unfold u_lay at hlay
  by_cases hfin : (ax_Tb ci k).2.2.2 = true
  · rw [if_pos hfin] at hlay
    obtain ⟨rfl, hinit, hC⟩ := hf hfin
    rw [if_pos rfl] at hw
    have own := ax_ownF hlay hi
    rw [ax_cls_own hci k hk, hC, hown] at own
    have hcf : m.cls = cf := Option.some.inj own
    have h6 := u_fits hfc hkC hkind (Or.inr hlay) hi hd' hn hfit
    exact W.putFinK hexec hb hown (hts _ (ax_gwf hw rfl)) hi hst hcf (hname.trans hinit) (by rw [q2']; exact h6) q1 q3 hlt rfl rfl hd fin
  · rw [if_neg hfin] at hlay
    have h6 := u_store hfc hkC hkind hlay hi hd' hn hfit
    split at hw
    · exact W.putK hexec hb (f := f) ⟨hown, hts _ (ax_gwf hw rfl), ⟨_, _, _, hi⟩, hst⟩ (by rw [q2']; exact h6) q1 q3 hlt rfl rfl hd fin
    · exact va_WputK hexec hb hown (va_Nw.use rfl (hKK.2.2.1 _ hw rfl)) hi hst (by rw [q2']; exact h6) q1 q3 hlt rfl rfl hd fin
/-- an array, constant or not -/
theorem ax_arr {s : State} {H : Heap} (hH : ax_Hd G μ H) (hK : ax_KK G s) {a : Nat} (h1 : 20 ≤ mK μ a) (h2 : mK μ a ≤ 28) : a ≠ 6 ∧ ∃ cell : Cell, H[ax_ad G a]? = some cell ∧ s.isArrayOf cell (ax_aT (mK μ a)) ∧ cell.vm ≠ .unknown ∧ cell.slots.size.toInt32 = nI (mZ μ a) ∧ (∀ i : Int32, vp_in i (mZ μ a) → ¬ (i < 0 ∨ cell.slots.size ≤ i.toNatClampNeg) ∧ cell.slots[i.toNatClampNeg]? = some (ax_av G μ (mK μ a) a i.toNatClampNeg)) ∧ (64 ≤ a → cell = arrV (ax_Y G (mK μ a)) (mZ μ a) (fun j => ax_av G μ (mK μ a) a j)) := by
  refine ⟨hH.n6 hK (by omega), ?_⟩
  rcases Nat.lt_or_ge a 64 with q | q
  · obtain ⟨e1, e2⟩ := hH.k0 q
    have hc := (hK.2.2.2.2.2.1 a q).2
    have h22 : mK μ a ≤ 22 := by have := hc.2.2; omega
    obtain ⟨cell, g1, g2, g3, g4, g5, g6, g7⟩ := hc.2.1 (by omega) (by omega)
    have hlt := (Array.getElem?_eq_some_iff.mp g1).1
    have hsz : (ax_Hb G).size = ax_B G := hK.2.2.2.2.2.2.2.1
    refine ⟨cell, by rw [ax_ad_lt q, hH.2.2.1 _ (by omega)]; exact g1, by rw [e1]; exact g2, g3, by rw [e2]; exact g5, fun i hi => ?_, fun z => by omega⟩
    have hi' : i.toNatClampNeg < mZ (ax_0 G) a := by rw [← e2]; exact Nat.not_le.mp fun z => hi (Or.inr z)
    refine ⟨fun z => ?_, ?_⟩
    · rcases z with z | z
      · exact hi (Or.inl z)
      · omega
    · rw [g6 _ hi', e1]
      unfold ax_av
      rw [(hH.2.2.2.2.2 a q).2.1, (hH.2.2.2.2.2 a q).2.2.1, (hH.2.2.2.2.2 a q).2.2.2]
  · have g1 := (hH.2.2.2.2.1 a q).2.1 h1 h2
    refine ⟨_, g1, (hK.2.1 _ h1 h2).1 _ _, (fun z => by cases z), ?_, fun i hi => ?_, fun _ => rfl⟩
    · rw [arrV_size]; rfl
    · rw [arrV_size]
      have hlt : i.toNatClampNeg < mZ μ a := Nat.not_le.mp fun z => hi (Or.inr z)
      exact ⟨hi, arrV_read _ _ hlt⟩
theorem ax_s_iald {a : Nat} {i : Int32} (hd : decode (ax_by h) pc = .ok (.iaload, 1)) (hK : mK μ a = 21) (hi : vp_in i (mZ μ a)) (kk : ax_Rw l G h EE (pc + 1) lv (ax_i (gI μ a i.toNatClampNeg) :: st) cl sl μ) : ax_Rw l G h EE pc lv (ax_i i :: ax_r (some a) :: st) cl sl μ := by
  intro p e s m args below meth c hx H locs ls hH hl hq
  obtain ⟨hexec, hb, hr, hlocks, hml, hown, hname, hts, hKK⟩ := id hx
  obtain ⟨n6, cell, g1, g2, g3, g4, g5, -⟩ := ax_arr hH hKK (a := a) (by omega) (by omega)
  obtain ⟨g6, g7⟩ := g5 i hi
  rw [hK] at g2 g7
  rw [List.map_cons, List.map_cons, ax_cv_some n6]
  exact W.iald (v := .int (gI μ a i.toNatClampNeg)) hexec hb g1 g2 g3 g6 g7 rfl rfl hd (kk p e s m args below meth c hx H locs ls hH hl hq)
theorem ax_s_lald {a : Nat} {i : Int32} (hd : decode (ax_by h) pc = .ok (.laload, 1)) (hK : mK μ a = 22) (hi : vp_in i (mZ μ a)) (kk : ax_Rw l G h EE (pc + 1) lv (ax_l (gL μ a i.toNatClampNeg) :: st) cl sl μ) : ax_Rw l G h EE pc lv (ax_i i :: ax_r (some a) :: st) cl sl μ := by
  intro p e s m args below meth c hx H locs ls hH hl hq
  obtain ⟨hexec, hb, hr, hlocks, hml, hown, hname, hts, hKK⟩ := id hx
  obtain ⟨n6, cell, g1, g2, g3, g4, g5, -⟩ := ax_arr hH hKK (a := a) (by omega) (by omega)
  obtain ⟨g6, g7⟩ := g5 i hi
  rw [hK] at g2 g7
  rw [List.map_cons, List.map_cons, ax_cv_some n6]
  exact W.lald (v := .long (gL μ a i.toNatClampNeg)) hexec hb g1 g2 g3 g6 g7 rfl rfl hd (kk p e s m args below meth c hx H locs ls hH hl hq)
theorem ax_s_bald {a : Nat} {i : Int32} (hd : decode (ax_by h) pc = .ok (.baload, 1)) (hK : mK μ a = 20 ∨ mK μ a = 23) (hi : vp_in i (mZ μ a)) (kk : ax_Rw l G h EE (pc + 1) lv (ax_i (gI μ a i.toNatClampNeg) :: st) cl sl μ) : ax_Rw l G h EE pc lv (ax_i i :: ax_r (some a) :: st) cl sl μ := by
  intro p e s m args below meth c hx H locs ls hH hl hq
  obtain ⟨hexec, hb, hr, hlocks, hml, hown, hname, hts, hKK⟩ := id hx
  obtain ⟨n6, cell, g1, g2, g3, g4, g5, -⟩ := ax_arr hH hKK (a := a) (by omega) (by omega)
  obtain ⟨g6, g7⟩ := g5 i hi
  rw [List.map_cons, List.map_cons, ax_cv_some n6]
  rcases hK with hK | hK
  · rw [hK] at g2 g7
    exact W.bald (v := .int (gI μ a i.toNatClampNeg)) hexec hb g1 g2 g3 g6 g7 rfl rfl hd (kk p e s m args below meth c hx H locs ls hH hl hq)
  · rw [hK] at g2 g7
    exact W.zald (v := .int (gI μ a i.toNatClampNeg)) hexec hb g1 g2 g3 g6 g7 rfl rfl hd (kk p e s m args below meth c hx H locs ls hH hl hq)
theorem ax_s_aald {a : Nat} {i : Int32} (hd : decode (ax_by h) pc = .ok (.aaload, 1)) (hK1 : 24 ≤ mK μ a) (hK2 : mK μ a ≤ 28) (hi : vp_in i (mZ μ a)) (kk : ax_Rw l G h EE (pc + 1) lv (ax_r (gR μ a i.toNatClampNeg) :: st) cl sl μ) : ax_Rw l G h EE pc lv (ax_i i :: ax_r (some a) :: st) cl sl μ := by
  intro p e s m args below meth c hx H locs ls hH hl hq
  obtain ⟨hexec, hb, hr, hlocks, hml, hown, hname, hts, hKK⟩ := id hx
  obtain ⟨n6, cell, g1, g2, g3, g4, g5, -⟩ := ax_arr hH hKK (a := a) (by omega) (by omega)
  obtain ⟨g6, g7⟩ := g5 i hi
  rw [List.map_cons, List.map_cons, ax_cv_some n6]
  unfold ax_av at g7
  rw [if_neg (by omega), if_neg (by omega)] at g7
  have href : (ax_aT (mK μ a)).isReference = true := (show ∀ k, k < 29 → 24 ≤ k → (ax_aT k).isReference = true by decide +kernel) (mK μ a) (by omega) hK1
  exact W.aald (v := ax_cv G (ax_r (gR μ a i.toNatClampNeg))) hexec hb g1 g2 href g3 g6 g7 rfl rfl hd (kk p e s m args below meth c hx H locs ls hH hl hq)
theorem ax_s_alen {a : Nat} (hd : decode (ax_by h) pc = .ok (.arraylength, 1)) (hK1 : 20 ≤ mK μ a) (hK2 : mK μ a ≤ 28) (kk : ax_Rw l G h EE (pc + 1) lv (ax_i (nI (mZ μ a)) :: st) cl sl μ) : ax_Rw l G h EE pc lv (ax_r (some a) :: st) cl sl μ := by
  intro p e s m args below meth c hx H locs ls hH hl hq
  obtain ⟨hexec, hb, hr, hlocks, hml, hown, hname, hts, hKK⟩ := id hx
  obtain ⟨n6, cell, g1, g2, g3, g4, g5, -⟩ := ax_arr hH hKK (a := a) (by omega) (by omega)
  rw [List.map_cons, ax_cv_some n6]
  exact W.alen (n := nI (mZ μ a)) hexec hb g1 g2 g4 rfl rfl hd (kk p e s m args below meth c hx H locs ls hH hl hq)
theorem ax_s_iast {a : Nat} {i v : Int32} (hd : decode (ax_by h) pc = .ok (.iastore, 1)) (ha : 64 ≤ a) (hK : mK μ a = 21) (hi : vp_in i (mZ μ a)) (kk : ax_Rw l G h EE (pc + 1) lv st cl sl (sI μ a i.toNatClampNeg v)) : ax_Rw l G h EE pc lv (ax_i v :: ax_i i :: ax_r (some a) :: st) cl sl μ := by
  intro p e s m args below meth c hx H locs ls hH hl hq
  obtain ⟨hexec, hb, hr, hlocks, hml, hown, hname, hts, hKK⟩ := id hx
  obtain ⟨n6, cell, g1, g2, g3, g4, g5, g8⟩ := ax_arr hH hKK (a := a) (by omega) (by omega)
  obtain ⟨g6, g7⟩ := g5 i hi
  rw [List.map_cons, List.map_cons, List.map_cons, ax_cv_some n6]
  have g2' := g2
  rw [hK] at g2'
  exact W.iast hexec hb g1 g2' g3 g6 rfl rfl hd fun H1 e1 z oq => kk p e s m args below meth c hx H1 _ ls (hH.stI ha (by omega) z oq (by rw [e1, g8 ha])) hl (ax_locs hq ha)
theorem ax_s_last {a : Nat} {i : Int32} {v : Int64} (hd : decode (ax_by h) pc = .ok (.lastore, 1)) (ha : 64 ≤ a) (hK : mK μ a = 22) (hi : vp_in i (mZ μ a)) (kk : ax_Rw l G h EE (pc + 1) lv st cl sl (sL μ a i.toNatClampNeg v)) : ax_Rw l G h EE pc lv (ax_l v :: ax_i i :: ax_r (some a) :: st) cl sl μ := by
  intro p e s m args below meth c hx H locs ls hH hl hq
  obtain ⟨hexec, hb, hr, hlocks, hml, hown, hname, hts, hKK⟩ := id hx
  obtain ⟨n6, cell, g1, g2, g3, g4, g5, g8⟩ := ax_arr hH hKK (a := a) (by omega) (by omega)
  obtain ⟨g6, g7⟩ := g5 i hi
  rw [List.map_cons, List.map_cons, List.map_cons, ax_cv_some n6]
  have g2' := g2
  rw [hK] at g2'
  exact W.last hexec hb g1 g2' g3 g6 rfl rfl hd fun H1 e1 z oq => kk p e s m args below meth c hx H1 _ ls (hH.stL ha hK z oq (by rw [e1, g8 ha])) hl (ax_locs hq ha)
theorem ax_s_bast {a : Nat} {i v : Int32} (hd : decode (ax_by h) pc = .ok (.bastore, 1)) (ha : 64 ≤ a) (hK : mK μ a = 20) (hi : vp_in i (mZ μ a)) (kk : ax_Rw l G h EE (pc + 1) lv st cl sl (sI μ a i.toNatClampNeg v.toInt8.toInt32)) : ax_Rw l G h EE pc lv (ax_i v :: ax_i i :: ax_r (some a) :: st) cl sl μ := by
  intro p e s m args below meth c hx H locs ls hH hl hq
  obtain ⟨hexec, hb, hr, hlocks, hml, hown, hname, hts, hKK⟩ := id hx
  obtain ⟨n6, cell, g1, g2, g3, g4, g5, g8⟩ := ax_arr hH hKK (a := a) (by omega) (by omega)
  obtain ⟨g6, g7⟩ := g5 i hi
  rw [List.map_cons, List.map_cons, List.map_cons, ax_cv_some n6]
  have g2' := g2
  rw [hK] at g2'
  exact W.bast hexec hb g1 g2' g3 g6 rfl rfl hd fun H1 e1 z oq => kk p e s m args below meth c hx H1 _ ls (hH.stI ha (by omega) z oq (by rw [e1, g8 ha]; rfl)) hl (ax_locs hq ha)
theorem ax_s_zast {a : Nat} {i v : Int32} (hd : decode (ax_by h) pc = .ok (.bastore, 1)) (ha : 64 ≤ a) (hK : mK μ a = 23) (hi : vp_in i (mZ μ a)) (hv : v = 0 ∨ v = 1) (kk : ax_Rw l G h EE (pc + 1) lv st cl sl (sI μ a i.toNatClampNeg v)) : ax_Rw l G h EE pc lv (ax_i v :: ax_i i :: ax_r (some a) :: st) cl sl μ := by
  intro p e s m args below meth c hx H locs ls hH hl hq
  obtain ⟨hexec, hb, hr, hlocks, hml, hown, hname, hts, hKK⟩ := id hx
  obtain ⟨n6, cell, g1, g2, g3, g4, g5, g8⟩ := ax_arr hH hKK (a := a) (by omega) (by omega)
  obtain ⟨g6, g7⟩ := g5 i hi
  rw [List.map_cons, List.map_cons, List.map_cons, ax_cv_some n6]
  have g2' := g2
  rw [hK] at g2'
  have hnar : narrow .boolean (.int v) = .int v := by rcases hv with rfl | rfl <;> rfl
  exact W.zast hexec hb g1 g2' g3 g6 rfl rfl hd fun H1 e1 z oq => kk p e s m args below meth c hx H1 _ ls (hH.stI ha (by omega) z oq (by rw [e1, g8 ha, hnar])) hl (ax_locs hq ha)
theorem ax_s_aast {a b ci : Nat} {i : Int32} (hd : decode (ax_by h) pc = .ok (.aastore, 1)) (ha : 64 ≤ a) (hK1 : 24 ≤ mK μ a) (hK2 : mK μ a ≤ 27) (hci : ci < 13) (hT : ax_aT (mK μ a) = .object (ax_Cn ci)) (hb6 : 64 ≤ b) (hKb : mK μ b = ci) (hi : vp_in i (mZ μ a)) (kk : ax_Rw l G h EE (pc + 1) lv st cl sl (sR μ a i.toNatClampNeg (some b))) : ax_Rw l G h EE pc lv (ax_r (some b) :: ax_i i :: ax_r (some a) :: st) cl sl μ := by
  intro p e s m args below meth c hx H locs ls hH hl hq
  obtain ⟨hexec, hb, hr, hlocks, hml, hown, hname, hts, hKK⟩ := id hx
  have g1 := (hH.2.2.2.2.1 a ha).2.1 (by omega) (by omega)
  obtain ⟨cell, q1, q2, q3, q4⟩ := (hH.2.2.2.2.1 b hb6).1 (by omega)
  rw [hKb] at q2
  rw [List.map_cons, List.map_cons, List.map_cons, ax_cv_some (by omega), ax_cv_some (by omega)]
  have hlt : i.toNatClampNeg < mZ μ a := Nat.not_le.mp fun z => hi (Or.inr z)
  have h0 : ¬ i < 0 := fun z => hi (Or.inl z)
  have hcls := (hKK.1 ci hci).2
  have hra := (hKK.2.1 (mK μ a) (by omega) (by omega)).2
  rw [hT] at hra
  obtain ⟨kA, comp, k1, k2, k3, -⟩ := hra
  have hcomp : comp = (ax_D G).1 ci := Option.some.inj (k3.symm.trans hcls.1)
  subst hcomp
  obtain ⟨kC, hkC, -⟩ := hcls.2
  exact W.aast hexec hb g1 (fun q h => by cases h) (fun h => by cases h) k1 k2 rfl hkC ⟨h0, by rw [arrV_size]; exact hlt⟩ q1 (fun q h => by rw [q3] at h; cases h) (by rw [q2]; exact hkC) (by rw [q2]; exact va_assign hcls) rfl rfl hd fun H1 e1 z oq => kk p e s m args below meth c hx H1 _ ls (hH.stR ha hK1 (by omega) z oq (by rw [e1, ax_ao_some (by omega)]; rfl)) hl (ax_locs hq ha)
end Snd
