def ax_at? (i : Nat) (w : Cond) : Bool := decide (lw_tbl[i]? = some w) && goodWord w
/-- a method's words, and what its name and descriptor say -/
def ax_mok (h : ax_H) (q : Nat × Nat × Nat × Nat × Nat) : Bool :=
  decide (q.1 = 0) || (ax_at? q.2.2.2.2 (.initialized (ax_nm h).cls) &&
    (if q.1 = 1 then ax_at? q.2.2.1 (.static (ax_nm h)) else ax_at? q.2.2.1 (.instanceMethod (ax_nm h)) && (if q.1 = 2 then ax_at? q.2.2.2.1 (.selects (ax_nm h).cls (ax_nm h) (ax_nm h)) else decide ((ax_nm h).name = "<init>") && decide (ax_rt h = none))) &&
    decide ((ax_nm h).cls ≠ "java/lang/invoke/MethodHandle") && decide ((ax_nm h).cls ≠ "java/lang/invoke/VarHandle") && decide ((parseMethodDescriptor (ax_nm h).desc).map (fun d => d.parameters.length) = some (ax_np h)) && _root_.Jvm.plainName (ax_nm h).cls && decide (ax_cn.getD (ax_oc h) "" = (ax_nm h).cls) &&
    (match ax_rt h with
      | none => decide (ax_rc h = 2)
      | some .long => decide (ax_rc h = 1)
      | some .int => decide (ax_rc h = 0)
      | some .boolean => decide (ax_rc h = 0)
      | some .char => decide (ax_rc h = 0)
      | some .byte => decide (ax_rc h = 0)
      | _ => false))
def ax_cw (h : ax_H) : Cond := .code (ax_nm h) (ax_by h) (ax_ml h) (ax_rt h)
set_option maxRecDepth 100000 in
theorem ax_cd0 : ((ax_tl.drop 0).take 32).map (fun h => some (ax_cw h)) = ((ax_cp.drop 0).take 32).map (fun i => lw_tbl[i]?) := rfl
set_option maxRecDepth 100000 in
theorem ax_cd32 : ((ax_tl.drop 32).take 32).map (fun h => some (ax_cw h)) = ((ax_cp.drop 32).take 32).map (fun i => lw_tbl[i]?) := rfl
set_option maxRecDepth 100000 in
theorem ax_cd64 : ((ax_tl.drop 64).take 32).map (fun h => some (ax_cw h)) = ((ax_cp.drop 64).take 32).map (fun i => lw_tbl[i]?) := rfl
set_option maxRecDepth 100000 in
theorem ax_cd96 : ((ax_tl.drop 96).take 32).map (fun h => some (ax_cw h)) = ((ax_cp.drop 96).take 32).map (fun i => lw_tbl[i]?) := rfl
set_option maxRecDepth 100000 in
theorem ax_cd128 : ((ax_tl.drop 128).take 32).map (fun h => some (ax_cw h)) = ((ax_cp.drop 128).take 32).map (fun i => lw_tbl[i]?) := rfl
set_option maxRecDepth 100000 in
theorem ax_cd160 : ((ax_tl.drop 160).take 32).map (fun h => some (ax_cw h)) = ((ax_cp.drop 160).take 32).map (fun i => lw_tbl[i]?) := rfl
set_option maxRecDepth 100000 in
theorem ax_cd192 : ((ax_tl.drop 192).take 32).map (fun h => some (ax_cw h)) = ((ax_cp.drop 192).take 32).map (fun i => lw_tbl[i]?) := rfl
set_option maxRecDepth 100000 in
theorem ax_cd224 : ((ax_tl.drop 224).take 25).map (fun h => some (ax_cw h)) = ((ax_cp.drop 224).take 25).map (fun i => lw_tbl[i]?) := rfl
theorem ax_m_ok : (ax_tl.zip ax_mp).all (fun q => ax_mok q.1 q.2) = true := by decide +kernel
/-- a class's words -/
def ax_cok (c : Nat) : Bool :=
  ((List.range (ax_nf c)).all (fun k => ax_at? ((ax_layp.getD c []).getD k 0) (u_lay (ax_Cn c) (ax_Tb c) k) && decide (parseFieldDescriptor (ax_Tb c k).2.2.1 = some (ax_fy c k)) && decide ((ax_Tb c k).1 = ax_Cn c) &&
    (match ax_fy c k with
      | .int => decide (ax_ft c k = 0)
      | .long => decide (ax_ft c k = 1)
      | .array _ => decide (ax_ft c k = 2)
      | .object _ => decide (ax_ft c k = 2)
      | _ => false) &&
    (List.range (ax_nf c)).all (fun j => decide (k = j) || decide ((ax_Tb c k).2.1 ≠ (ax_Tb c j).2.1)))) &&
  ax_at? (ax_insp.getD c 0) (.instantiable (ax_Cn c) (ax_nf c)) && ax_at? (ax_inip.getD c 0) (.initialized (ax_Cn c))
theorem ax_c_ok : (List.range 13).all ax_cok = true := by decide +kernel
