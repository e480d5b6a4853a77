section Snd
variable {l : Launch} {G : ax_G} {h : ax_H} {EE : Program → Env → State → MethodId → Array Value → List Frame → Method → Code → State → Prop} {pc : Nat} {lv : ax_L} {st : List ax_V} {cl sl : Nat} {μ : ax_M}
theorem ax_s_ifnull {x : Option Nat} {off : Int} {tgt : Nat} (hd : decode (ax_by h) pc = .ok (.ifnull off, 3)) (ht : (pc : Int) + off = (tgt : Int)) (k : ax_br (x = none) (ax_Rw l G h EE tgt lv st cl sl μ) (x ≠ some 6 ∧ ax_Rw l G h EE (pc + 3) lv st cl sl μ)) : ax_Rw l G h EE pc lv (ax_r x :: st) cl sl μ := by
  intro p e s m args below meth c hx H locs ls hH hl hq
  cases x with
  | none => exact lv_ifnullN hx.1 hx.2.1 hd ht (k.1 rfl p e s m args below meth c hx H locs ls hH hl hq)
  | some a =>
    obtain ⟨k1, k2⟩ := k.2 (by simp)
    rw [List.map_cons, ax_cv_some (fun e => k1 (by rw [e]))]
    exact lv_ifnull hx.1 hx.2.1 hd (k2 p e s m args below meth c hx H locs ls hH hl hq)
theorem ax_s_ifnonnull {x : Option Nat} {off : Int} {tgt : Nat} (hd : decode (ax_by h) pc = .ok (.ifnonnull off, 3)) (ht : (pc : Int) + off = (tgt : Int)) (k : ax_br (x = none) (ax_Rw l G h EE (pc + 3) lv st cl sl μ) (x ≠ some 6 ∧ ax_Rw l G h EE tgt lv st cl sl μ)) : ax_Rw l G h EE pc lv (ax_r x :: st) cl sl μ := by
  intro p e s m args below meth c hx H locs ls hH hl hq
  cases x with
  | none => exact lv_ifnonnullN hx.1 hx.2.1 hd (k.1 rfl p e s m args below meth c hx H locs ls hH hl hq)
  | some a =>
    obtain ⟨k1, k2⟩ := k.2 (by simp)
    rw [List.map_cons, ax_cv_some (fun e => k1 (by rw [e]))]
    exact lv_ifnonnull hx.1 hx.2.1 hd ht (k2 p e s m args below meth c hx H locs ls hH hl hq)
theorem ax_s_ldcI {i : Nat} {v : Int32} (hd : decode (ax_by h) pc = .ok (.ldc i, 2)) (hw : Cond.constant (ax_nm h).cls i v ∈ ax_gw) (k : ax_Rw l G h EE (pc + 2) lv (ax_i v :: st) cl sl μ) : ax_Rw l G h EE pc lv st cl sl μ :=
  fun p e s m args below meth c hx H locs ls hH hl hq => lv_ldc hx.1 hx.2.1 hx.2.2.2.2.2.1 (hx.2.2.2.2.2.2.2.1 _ hw) hd (k p e s m args below meth c hx H locs ls hH hl hq)
theorem ax_s_ldcwI {i : Nat} {v : Int32} (hd : decode (ax_by h) pc = .ok (.ldc_w i, 3)) (hw : Cond.constant (ax_nm h).cls i v ∈ ax_gw) (k : ax_Rw l G h EE (pc + 3) lv (ax_i v :: st) cl sl μ) : ax_Rw l G h EE pc lv st cl sl μ :=
  fun p e s m args below meth c hx H locs ls hH hl hq => lv_ldcw hx.1 hx.2.1 hx.2.2.2.2.2.1 (hx.2.2.2.2.2.2.2.1 _ hw) hd (k p e s m args below meth c hx H locs ls hH hl hq)
theorem ax_s_ldc2 {i : Nat} {v : Int64} (hd : decode (ax_by h) pc = .ok (.ldc2_w i, 3)) (hw : Cond.constantLong (ax_nm h).cls i v ∈ ax_gw) (k : ax_Rw l G h EE (pc + 3) lv (ax_l v :: st) cl sl μ) : ax_Rw l G h EE pc lv st cl sl μ :=
  fun p e s m args below meth c hx H locs ls hH hl hq => lv_ldc2 hx.1 hx.2.1 hx.2.2.2.2.2.1 (hx.2.2.2.2.2.2.2.1 _ hw) hd (k p e s m args below meth c hx H locs ls hH hl hq)
theorem ax_s_ldcS {i j : Nat} {tx : String} (hd : decode (ax_by h) pc = .ok (.ldc i, 2)) (hw : (ax_oc h, i, j, tx) ∈ ax_ks) (hcn : ax_cn.getD (ax_oc h) "" = (ax_nm h).cls) (hj : j < 64) (hj7 : 7 ≤ j) (k : ax_Rw l G h EE (pc + 2) lv (ax_r (some j) :: st) cl sl μ) : ax_Rw l G h EE pc lv st cl sl μ := by
  intro p e s m args below meth c hx H locs ls hH hl hq
  have h1 := hx.2.2.2.2.2.2.2.2.2.2.2.1 _ hw
  have k1 := k p e s m args below meth c hx H locs ls hH hl hq
  rw [List.map_cons, ax_cv_some (by omega), ax_ad_lt hj] at k1
  exact va_ldcS hx.1 hx.2.1 (own := (ax_nm h).cls) (tx := tx) hx.2.2.2.2.2.1 (by rw [← hcn]; exact h1) hd k1
theorem ax_s_ldcwS {i j : Nat} {tx : String} (hd : decode (ax_by h) pc = .ok (.ldc_w i, 3)) (hw : (ax_oc h, i, j, tx) ∈ ax_ks) (hcn : ax_cn.getD (ax_oc h) "" = (ax_nm h).cls) (hj : j < 64) (hj7 : 7 ≤ j) (k : ax_Rw l G h EE (pc + 3) lv (ax_r (some j) :: st) cl sl μ) : ax_Rw l G h EE pc lv st cl sl μ := by
  intro p e s m args below meth c hx H locs ls hH hl hq
  have h1 := hx.2.2.2.2.2.2.2.2.2.2.2.1 _ hw
  have k1 := k p e s m args below meth c hx H locs ls hH hl hq
  rw [List.map_cons, ax_cv_some (by omega), ax_ad_lt hj] at k1
  rw [hcn] at h1
  intro T hT X
  have w := k1 T hT X
  exact w.imp fun u z => ⟨X.ldcStringW hx.1 hx.2.2.2.2.2.1 h1.1 h1.2 (g := F0 m pc ls (st.map (ax_cv G))) rfl (hx.2.1 ▸ hd) u z.1, z.2⟩
theorem ax_s_gets {i j : Nat} (hd : decode (ax_by h) pc = .ok (.getstatic i, 3)) (hw : Cond.fieldLink (ax_nm h).cls i (ax_sn j).1 (ax_sn j).2.1 (ax_sn j).2.2.1 ∈ ax_gw) (hj : j < 7) (k : ax_Rw l G h EE (pc + 3) lv ((ax_sn j).2.2.2 :: st) cl sl μ) : ax_Rw l G h EE pc lv st cl sl μ := by
  intro p e s m args below meth c hx H locs ls hH hl hq
  obtain ⟨cf, kf, fi, f, a, cell, h1, h2, h3, h4, h5, h6, h7, h8⟩ := hx.2.2.2.2.2.2.2.2.2.2.2.2.1 j hj
  have hlt : a < ax_B G := by
    have := (Array.getElem?_eq_some_iff.mp h5).1
    have e := hx.2.2.2.2.2.2.2.2.2.2.2.2.2.2.2.1
    omega
  exact W.gets hx.1 hx.2.1 hx.2.2.2.2.2.1 (hx.2.2.2.2.2.2.2.1 _ hw) h1 h2 h3 h4 (by rw [hH.2.2.1 a hlt]; exact h5) (fun e => by rw [e] at h6; cases h6) h7 rfl hd (k p e s m args below meth c hx H locs ls hH hl hq)
/-- a cell of one of the classes isn't a constant -/
theorem ax_big {s : State} {H : Heap} (hH : ax_Hd G μ H) (hK : ax_KK G s) {a : Nat} (ha : mK μ a < 13) : 64 ≤ a := by
  rcases Nat.lt_or_ge a 64 with q | q
  · have h1 := (hH.k0 q).1
    have h2 := (hK.2.2.2.2.2.1 a q).2.2.2
    omega
  · exact q
theorem ax_fnT {ci k : Nat} (hci : ci < 13) : ax_fn ci k = ((ax_Tb ci k).1, (ax_Tb ci k).2.1, (ax_Tb ci k).2.2.1) := by
  unfold ax_fn
  rw [if_neg (by omega)]
theorem ax_s_get {i ci k n a : Nat} {v : ax_V} (hd : decode (ax_by h) pc = .ok (.getfield i, 3)) (hw : ax_wf (ax_oc h, i, ci, k, n) ∈ lw_tbl) (hcn : ax_cn.getD (ax_oc h) "" = (ax_nm h).cls) (hci : ci < 13) (hk : k < ax_nf ci) (hK : mK μ a = ci) (hv : ax_cv G v = ax_fv G μ a k (ax_ft ci k)) (kk : ax_Rw l G h EE (pc + 3) lv (v :: st) cl sl μ) : ax_Rw l G h EE pc lv (ax_r (some a) :: st) cl sl μ := by
  intro p e s m args below meth c hx H locs ls hH hl hq
  obtain ⟨hexec, hb, hr, hlocks, hml, hown, hname, hts, hKK⟩ := id hx
  have k1 := kk p e s m args below meth c hx H locs ls hH hl hq
  have ha : 64 ≤ a := ax_big hH hKK (by omega)
  rw [List.map_cons, hv] at k1
  rw [List.map_cons, ax_cv_some (by omega)]
  obtain ⟨cell, q1, q2, q3, q4⟩ := (hH.2.2.2.2.1 a ha).1 (by omega)
  rw [hK] at q2 q4
  obtain ⟨hS, hfc, kC, hkC, hkind⟩ := hKK.1 ci hci
  obtain ⟨cf, kf, fi, f, hi, hsl⟩ := hS k hk
  have hst := (u_facts hfc hkC (u_lays hts (ax_cls_lay hci) hk) hi).1
  have hslot : cell.slots[f.slot]? = some (ax_fv G μ a k (ax_ft ci k)) := by rw [hsl]; exact q4 k hk
  unfold ax_wf at hw
  rw [ax_fnT hci] at hw
  simp only [hcn] at hw
  split at hw
  · exact W.getf hexec hb hown (hts _ (ax_gwf hw rfl)) hi hst q1 (by rw [q3]; exact fun h => by cases h) hslot rfl rfl hd k1
  · exact va_Wgetf hexec hb hown (va_Nw.use rfl (hKK.2.2.1 _ hw rfl)) hi hst q1 (by rw [q3]; exact fun h => by cases h) hslot rfl rfl hd k1
theorem ax_s_getS {i k a : Nat} {v : ax_V} (hd : decode (ax_by h) pc = .ok (.getfield i, 3)) (hw : Cond.fieldLink (ax_nm h).cls i (ax_fn 13 k).1 (ax_fn 13 k).2.1 (ax_fn 13 k).2.2 ∈ ax_gw) (hK : mK μ a = 13) (hv : (k = 0 ∧ v = ax_r (gR μ a 0)) ∨ (k = 1 ∧ v = ax_i (gI μ a 1))) (kk : ax_Rw l G h EE (pc + 3) lv (v :: st) cl sl μ) : ax_Rw l G h EE pc lv (ax_r (some a) :: st) cl sl μ := by
  intro p e s m args below meth c hx H locs ls hH hl hq
  obtain ⟨hexec, hb, hr, hlocks, hml, hown, hname, hts, hKK⟩ := id hx
  have k1 := kk p e s m args below meth c hx H locs ls hH hl hq
  have h6 : a ≠ 6 := hH.n6 hKK (by omega)
  rw [List.map_cons, ax_cv_some h6]
  rw [List.map_cons] at k1
  have ha : a < 64 := by
    rcases Nat.lt_or_ge a 64 with q | q
    · exact q
    · exact absurd hK (hH.2.2.2.2.1 a q).2.2
  obtain ⟨h2, h3, h4⟩ := (hKK.2.2.2.2.2.1 a ha).2.1 ((hH.k0 ha).1.symm.trans hK)
  have hsz : (ax_Hb G).size = ax_B G := hKK.2.2.2.2.2.2.2.1
  rw [ax_ad_lt ha]
  have kept : ∀ q : Nat, q < (ax_Hb G).size → ¬ (ax_B G ≤ q) → H[q]? = (ax_Hb G)[q]? := fun q _ hq => hH.2.2.1 q (by omega)
  rcases hv with ⟨rfl, rfl⟩ | ⟨rfl, rfl⟩
  · obtain ⟨cf, k, fi, f, cell, g1, g2, g3, g4, g5, g6⟩ := h4.kept kept
    refine W.getf hexec hb hown (hts _ hw) g1 g2 g3 g4 (v := ax_cv G (ax_r (gR μ a 0))) ?_ rfl rfl hd k1
    rw [g5, (hH.2.2.2.2.2 a ha).2.2.2 0]
    rfl
  · obtain ⟨cf, k, fi, f, cell, g1, g2, g3, g4, g5, g6⟩ := h3.kept kept
    refine W.getf hexec hb hown (hts _ hw) g1 g2 g3 g4 (v := ax_cv G (ax_i (gI μ a 1))) ?_ rfl rfl hd k1
    rw [g5, (hH.2.2.2.2.2 a ha).2.1 1]
    rfl
end Snd
