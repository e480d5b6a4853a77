/-- the words that hold at every state that the tables reach -/
def ax_gw : List Cond := lw_tbl.filter goodWord
theorem ax_gwi {w : Cond} {i : Nat} (h : lw_tbl[i]? = some w) (g : goodWord w = true) : w ∈ ax_gw := List.mem_filter.mpr ⟨List.mem_of_getElem? h, g⟩
def ax_host (n : Nat) : String := if n = 1 then "BiscuitLess" else "BiscuitLessModel"
def ax_fn (c k : Nat) : String × String × String := if c = 13 then (if k = 0 then ("java/lang/String", "value", "[B") else ("java/lang/String", "coder", "B")) else ((ax_Tb c k).1, (ax_Tb c k).2.1, (ax_Tb c k).2.2.1)
def ax_wf (q : Nat × Nat × Nat × Nat × Nat) : Cond := if q.2.2.2.2 = 0 then .fieldLink (ax_cn.getD q.1 "") q.2.1 (ax_fn q.2.2.1 q.2.2.2.1).1 (ax_fn q.2.2.1 q.2.2.2.1).2.1 (ax_fn q.2.2.1 q.2.2.2.1).2.2 else .fieldLinkNest (ax_cn.getD q.1 "") q.2.1 (ax_fn q.2.2.1 q.2.2.2.1).1 (ax_fn q.2.2.1 q.2.2.2.1).2.1 (ax_fn q.2.2.1 q.2.2.2.1).2.2 (ax_host q.2.2.2.2)
def ax_obj : MethodName := ⟨"java/lang/Object", "<init>", "()V"⟩
def ax_yn (y : Nat) : MethodName := if y = 9999 then ax_obj else if y = 9990 then ⟨"java/lang/Math", "abs", "(I)I"⟩ else if y = 9991 then ⟨"java/lang/Math", "max", "(II)I"⟩ else if y = 9992 then ⟨"java/lang/Math", "min", "(II)I"⟩ else if y = 9993 then ⟨"java/lang/Math", "min", "(JJ)J"⟩ else ax_nm (ax_tb y)
def ax_wm (q : Nat × Nat × Nat × Nat) : Cond := if q.2.2.2 = 0 then .methodLink (ax_cn.getD q.1 "") q.2.1 (ax_yn q.2.2.1) else .methodLinkNest (ax_cn.getD q.1 "") q.2.1 (ax_yn q.2.2.1) (ax_host q.2.2.2)
def ax_wc (q : Nat × Nat × Nat) : Cond := .classLink (ax_cn.getD q.1 "") q.2.1 (if q.2.2 = 28 then "[[I" else ax_Cn q.2.2)
def ax_wi (q : Nat × Nat × Int32) : Cond := .constant (ax_cn.getD q.1 "") q.2.1 q.2.2
def ax_wl (q : Nat × Nat × Int64) : Cond := .constantLong (ax_cn.getD q.1 "") q.2.1 q.2.2
def ax_ws (q : Nat × Nat × Nat × String) : Cond := .stringRef (ax_cn.getD q.1 "") q.2.1 q.2.2.2
def ax_sn (k : Nat) : String × String × String × ax_V := ax_st.getD k ("", "", "", ax_i 0)
def ax_wt (q : Nat × Nat × Nat) : Cond := .fieldLink (ax_cn.getD q.1 "") q.2.1 (ax_sn q.2.2).1 (ax_sn q.2.2).2.1 (ax_sn q.2.2).2.2.1
def ax_all {α : Type} (f : α → Cond) (l : List α) (ps : List Nat) : Bool := (l.zip ps).all (fun q => decide (lw_tbl[q.2]? = some (f q.1)))
theorem ax_lf_ok : ax_all ax_wf ax_lf ax_lfp = true := by decide +kernel
theorem ax_lm_ok : ax_all ax_wm ax_lm ax_lmp = true := by decide +kernel
theorem ax_lc_ok : ax_all ax_wc ax_lc ax_lcp = true := by decide +kernel
theorem ax_ki_ok : ax_all ax_wi ax_ki ax_kip = true := by decide +kernel
theorem ax_kl_ok : ax_all ax_wl ax_kl ax_klp = true := by decide +kernel
theorem ax_ks_ok : ax_all ax_ws ax_ks ax_ksp = true := by decide +kernel
theorem ax_ls_ok : ax_all ax_wt ax_ls ax_lsp = true := by decide +kernel
