section Snd
variable {l : Launch} {G : ax_G} {h : ax_H} {EE : Program → Env → State → MethodId → Array Value → List Frame → Method → Code → State → Prop} {pc : Nat} {lv : ax_L} {st : List ax_V} {cl sl : Nat} {μ : ax_M}
theorem ax_mth : (∀ y, 9990 ≤ y → y ≤ 9993 → Cond.static (ax_yn y) ∈ ax_gw) ∧ Cond.initialized "java/lang/Math" ∈ ax_gw := by
  refine ⟨fun y h1 h2 => ?_, ax_gwi (i := 123) (by decide +kernel) rfl⟩
  have : y = 9990 ∨ y = 9991 ∨ y = 9992 ∨ y = 9993 := by omega
  rcases this with rfl | rfl | rfl | rfl
  · exact ax_gwi (i := 752) (by decide +kernel) rfl
  · exact ax_gwi (i := 690) (by decide +kernel) rfl
  · exact ax_gwi (i := 529) (by decide +kernel) rfl
  · exact ax_gwi (i := 771) (by decide +kernel) rfl
theorem ax_mca : Cond.code Lib.Math.abs.name Lib.Math.abs.code 1 (some .int) ∈ ax_gw := ax_gwi (i := 753) (by decide +kernel) rfl
theorem ax_mcx : Cond.code Lib.Math.max.name Lib.Math.max.code 2 (some .int) ∈ ax_gw := ax_gwi (i := 691) (by decide +kernel) rfl
theorem ax_mcn : Cond.code Lib.Math.min.name Lib.Math.min.code 2 (some .int) ∈ ax_gw := ax_gwi (i := 530) (by decide +kernel) rfl
theorem ax_mcl : Cond.code Lib.MathLoose.min_long.x Lib.MathLoose.min_long.code 4 (some .long) ∈ ax_gw := ax_gwi (i := 772) (by decide +kernel) rfl
theorem ax_ob1 : Cond.instanceMethod Lib.objectInit ∈ ax_gw := ax_gwi (i := 140) (by decide +kernel) rfl
theorem ax_ob2 : Cond.code Lib.objectInit ⟨#[0xb1]⟩ 1 none ∈ ax_gw := ax_gwi (i := 141) rfl rfl
theorem ax_wm0 {i y : Nat} (hcn : ax_cn.getD (ax_oc h) "" = (ax_nm h).cls) (hw : ax_wm (ax_oc h, i, y, 0) ∈ lw_tbl) : Cond.methodLink (ax_nm h).cls i (ax_yn y) ∈ ax_gw := by
  unfold ax_wm at hw
  simp only [hcn] at hw
  exact ax_gwf hw rfl
theorem ax_s_abs {i : Nat} {x : Int32} (hd : decode (ax_by h) pc = .ok (.invokestatic i, 3)) (hw : ax_wm (ax_oc h, i, 9990, 0) ∈ lw_tbl) (hcn : ax_cn.getD (ax_oc h) "" = (ax_nm h).cls) (hf : 1 ≤ h.2.1.1) (hlo : 23 ≤ h.2.1.2.1) (h8 : ax_sum st ≤ 8) (hc : cl ≤ ax_mc h) (hs : sl ≤ ax_ms h) (k : ax_Rw l G h EE (pc + 3) lv (ax_i (if 0 ≤ x then x else 0 - x) :: st) cl sl μ) : ax_Rw l G h EE pc lv (ax_i x :: st) cl sl μ := by
  intro p e s m args below meth c hx H locs ls hH hl hq
  obtain ⟨hexec, hb, hr, hlocks, hml, hown, hname, hts, hKK⟩ := id hx
  exact va_mabs hexec hb (hml.trans hl.1.symm) hown (hts _ (ax_wm0 hcn hw)) (hts _ (ax_mth.1 9990 (by decide) (by decide))) (hts _ ax_mth.2) (hts _ ax_mca) hf (by rw [ax_sum_cv]; show _ ≤ h.2.1.2.1; omega) hc hs hd (k p e s m args below meth c hx H locs ls hH hl hq)
theorem ax_s_max {i : Nat} {x y : Int32} (hd : decode (ax_by h) pc = .ok (.invokestatic i, 3)) (hw : ax_wm (ax_oc h, i, 9991, 0) ∈ lw_tbl) (hcn : ax_cn.getD (ax_oc h) "" = (ax_nm h).cls) (hf : 1 ≤ h.2.1.1) (hlo : 23 ≤ h.2.1.2.1) (h8 : ax_sum st ≤ 8) (hc : cl ≤ ax_mc h) (hs : sl ≤ ax_ms h) (k : ax_Rw l G h EE (pc + 3) lv (ax_i (if x < y then y else x) :: st) cl sl μ) : ax_Rw l G h EE pc lv (ax_i y :: ax_i x :: st) cl sl μ := by
  intro p e s m args below meth c hx H locs ls hH hl hq
  obtain ⟨hexec, hb, hr, hlocks, hml, hown, hname, hts, hKK⟩ := id hx
  exact va_mmax hexec hb (hml.trans hl.1.symm) hown (hts _ (ax_wm0 hcn hw)) (hts _ (ax_mth.1 9991 (by decide) (by decide))) (hts _ ax_mth.2) (hts _ ax_mcx) hf (by rw [ax_sum_cv]; show _ ≤ h.2.1.2.1; omega) hc hs hd (k p e s m args below meth c hx H locs ls hH hl hq)
theorem ax_s_min {i : Nat} {x y : Int32} (hd : decode (ax_by h) pc = .ok (.invokestatic i, 3)) (hw : ax_wm (ax_oc h, i, 9992, 0) ∈ lw_tbl) (hcn : ax_cn.getD (ax_oc h) "" = (ax_nm h).cls) (hf : 1 ≤ h.2.1.1) (hlo : 23 ≤ h.2.1.2.1) (h8 : ax_sum st ≤ 8) (hc : cl ≤ ax_mc h) (hs : sl ≤ ax_ms h) (k : ax_Rw l G h EE (pc + 3) lv (ax_i (if y < x then y else x) :: st) cl sl μ) : ax_Rw l G h EE pc lv (ax_i y :: ax_i x :: st) cl sl μ := by
  intro p e s m args below meth c hx H locs ls hH hl hq
  obtain ⟨hexec, hb, hr, hlocks, hml, hown, hname, hts, hKK⟩ := id hx
  exact va_mmin hexec hb (hml.trans hl.1.symm) hown (hts _ (ax_wm0 hcn hw)) (hts _ (ax_mth.1 9992 (by decide) (by decide))) (hts _ ax_mth.2) (hts _ ax_mcn) hf (by rw [ax_sum_cv]; show _ ≤ h.2.1.2.1; omega) hc hs hd (k p e s m args below meth c hx H locs ls hH hl hq)
theorem ax_s_lmin {i : Nat} {x y : Int64} (hd : decode (ax_by h) pc = .ok (.invokestatic i, 3)) (hw : ax_wm (ax_oc h, i, 9993, 0) ∈ lw_tbl) (hcn : ax_cn.getD (ax_oc h) "" = (ax_nm h).cls) (hf : 1 ≤ h.2.1.1) (hlo : 23 ≤ h.2.1.2.1) (h8 : ax_sum st ≤ 8) (hc : cl ≤ ax_mc h) (hs : sl ≤ ax_ms h) (k : ax_Rw l G h EE (pc + 3) lv (ax_l (if y < x then y else x) :: st) cl sl μ) : ax_Rw l G h EE pc lv (ax_l y :: ax_l x :: st) cl sl μ := by
  intro p e s m args below meth c hx H locs ls hH hl hq
  obtain ⟨hexec, hb, hr, hlocks, hml, hown, hname, hts, hKK⟩ := id hx
  exact va_mmin_long hexec hb (hml.trans hl.1.symm) hown (hts _ (ax_wm0 hcn hw)) (hts _ (ax_mth.1 9993 (by decide) (by decide))) (hts _ ax_mth.2) (hts _ ax_mcl) hf (by rw [ax_sum_cv]; show _ ≤ h.2.1.2.1; omega) hc hs hd (k p e s m args below meth c hx H locs ls hH hl hq)
theorem ax_s_obj {i a : Nat} (hd : decode (ax_by h) pc = .ok (.invokespecial i, 3)) (hw : ax_wm (ax_oc h, i, 9999, 0) ∈ lw_tbl) (hcn : ax_cn.getD (ax_oc h) "" = (ax_nm h).cls) (hf : 1 ≤ h.2.1.1) (hlo : 20 ≤ h.2.1.2.1) (ha : 64 ≤ a) (h8 : ax_sum st ≤ 8) (k : ax_Rw l G h EE (pc + 3) lv st cl sl μ) : ax_Rw l G h EE pc lv (ax_r (some a) :: st) cl sl μ := by
  intro p e s m args below meth c hx H locs ls hH hl hq
  obtain ⟨hexec, hb, hr, hlocks, hml, hown, hname, hts, hKK⟩ := id hx
  rw [List.map_cons, ax_cv_some (by omega)]
  exact W.objInit hexec hb hown (hts _ (ax_wm0 hcn hw)) (hts _ ax_ob1) (hts _ ax_ob2) rfl (hl.1.trans hml.symm) rfl hd hf (by rw [ax_sum_cv]; show 2 * 0 + _ + 12 ≤ h.2.1.2.1; omega) (k p e s m args below meth c hx H locs ls hH hl hq)
/-! the ends of a method -/
theorem ax_s_iret {x : Int32} {ty : FieldType} {Q : Option ax_V → ax_M → Prop} (hd : decode (ax_by h) pc = .ok (.ireturn, 1)) (ht : ax_rt h = some ty) (hn : narrow ty (.int x) = .int x) (hc : cl ≤ ax_mc h) (hs : sl ≤ ax_ms h) (hQ : Q (some (ax_i x)) μ) : ax_Rw l G h (ax_E G h Q) pc lv [ax_i x] cl sl μ := by
  intro p e s m args below meth c hx H locs ls hH hl hq
  obtain ⟨hexec, hb, hr, hlocks, hml, hown, hname, hts, hKK⟩ := id hx
  refine W.widen hc hs ?_
  exact W.zret hexec hb (hr.trans ht) hn (fun t ht _ => ⟨some (ax_i x), μ, rfl, hQ, by rw [ht]; exact hH⟩) hq hd
theorem ax_s_lret {x : Int64} {Q : Option ax_V → ax_M → Prop} (hd : decode (ax_by h) pc = .ok (.lreturn, 1)) (ht : ax_rt h = some .long) (hc : cl ≤ ax_mc h) (hs : sl ≤ ax_ms h) (hQ : Q (some (ax_l x)) μ) : ax_Rw l G h (ax_E G h Q) pc lv [ax_l x] cl sl μ := by
  intro p e s m args below meth c hx H locs ls hH hl hq
  obtain ⟨hexec, hb, hr, hlocks, hml, hown, hname, hts, hKK⟩ := id hx
  refine W.widen hc hs ?_
  exact W.lret hexec hb (hr.trans ht) (fun t ht _ => ⟨some (ax_l x), μ, rfl, hQ, by rw [ht]; exact hH⟩) hq hd
theorem ax_s_vret {Q : Option ax_V → ax_M → Prop} (hd : decode (ax_by h) pc = .ok (.return_, 1)) (ht : ax_rt h = none) (hc : cl ≤ ax_mc h) (hs : sl ≤ ax_ms h) (hQ : Q none μ) : ax_Rw l G h (ax_E G h Q) pc lv [] cl sl μ := by
  intro p e s m args below meth c hx H locs ls hH hl hq
  obtain ⟨hexec, hb, hr, hlocks, hml, hown, hname, hts, hKK⟩ := id hx
  refine W.widen hc hs ?_
  exact W.vret hexec hb (hr.trans ht) (fun t ht _ => ⟨none, μ, rfl, hQ, by rw [ht]; exact hH⟩) hq hd
theorem ax_s_tabO {d lo hi : Int} {offs : Array Int} {len tgt : Nat} {x : Int32} (hd : decode (ax_by h) pc = .ok (.tableswitch d lo hi offs, len)) (hx0 : x.toInt < lo ∨ hi < x.toInt) (ht : (pc : Int) + d = (tgt : Int)) (k : ax_Rw l G h EE tgt lv st cl sl μ) : ax_Rw l G h EE pc lv (ax_i x :: st) cl sl μ :=
  fun p e s m args below meth c hx H locs ls hH hl hq => lv_tableOut hx.1 hx.2.1 hd hx0 ht (k p e s m args below meth c hx H locs ls hH hl hq)
theorem ax_s_tabI {d lo hi off : Int} {offs : Array Int} {len tgt : Nat} {x : Int32} (hd : decode (ax_by h) pc = .ok (.tableswitch d lo hi offs, len)) (h1 : ¬ x.toInt < lo) (h2 : ¬ hi < x.toInt) (ho : offs[(x.toInt - lo).toNat]? = some off) (ht : (pc : Int) + off = (tgt : Int)) (k : ax_Rw l G h EE tgt lv st cl sl μ) : ax_Rw l G h EE pc lv (ax_i x :: st) cl sl μ :=
  fun p e s m args below meth c hx H locs ls hH hl hq => lv_tableIn hx.1 hx.2.1 hd h1 h2 ho ht (k p e s m args below meth c hx H locs ls hH hl hq)
end Snd
