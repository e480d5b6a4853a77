theorem ax_of_all {α : Type} {f : α → Cond} {l : List α} {ps : List Nat} (h : ax_all f l ps = true) (hl : l.length = ps.length) {j : Nat} {q : α} (hj : l[j]? = some q) : f q ∈ lw_tbl := by
  have hlt : j < l.length := (List.getElem?_eq_some_iff.mp hj).1
  have hp : ps[j]? = some (ps[j]'(by omega)) := List.getElem?_eq_getElem (by omega)
  have hz : (l.zip ps)[j]? = some (q, ps[j]'(by omega)) := by
    rw [List.getElem?_zip_eq_some]
    exact ⟨hj, hp⟩
  have h1 := List.all_eq_true.mp h _ (List.mem_of_getElem? hz)
  exact List.mem_of_getElem? (of_decide_eq_true h1)
theorem ax_at?_spec {i : Nat} {w : Cond} (h : ax_at? i w = true) : w ∈ ax_gw := by
  simp only [ax_at?, Bool.and_eq_true, decide_eq_true_eq] at h
  exact ax_gwi h.1 h.2
theorem ax_tl_len : ax_tl.length = 251 := by decide +kernel
theorem ax_mp_len : ax_mp.length = 250 := by decide +kernel
theorem ax_cp_len : ax_cp.length = 249 := by decide +kernel
theorem ax_tb_at {y : Nat} (hy : y < 251) : ax_tl[y]? = some (ax_tb y) := by
  have h : y < ax_tl.length := by rw [ax_tl_len]; exact hy
  rw [List.getElem?_eq_getElem h]
  simp [ax_tb, List.getD, List.getElem?_eq_getElem h]
def ax_mq (y : Nat) : Nat × Nat × Nat × Nat × Nat := ax_mp.getD y (0, 0, 0, 0, 0)
theorem ax_mok_at {y : Nat} (hy : y < 250) : ax_mok (ax_tb y) (ax_mq y) = true := by
  have h2 : y < ax_mp.length := by rw [ax_mp_len]; exact hy
  have hq : ax_mp[y]? = some (ax_mq y) := by
    rw [List.getElem?_eq_getElem h2]
    simp [ax_mq, List.getD, List.getElem?_eq_getElem h2]
  have hz : (ax_tl.zip ax_mp)[y]? = some (ax_tb y, ax_mq y) := by
    rw [List.getElem?_zip_eq_some]
    exact ⟨ax_tb_at (by omega), hq⟩
  exact List.all_eq_true.mp ax_m_ok _ (List.mem_of_getElem? hz)
theorem ax_cd_at {a n y : Nat} (h : ((ax_tl.drop a).take n).map (fun h => some (ax_cw h)) = ((ax_cp.drop a).take n).map (fun i => lw_tbl[i]?)) (h1 : a ≤ y) (h2 : y < a + n) (hy : y < 249) : ax_cw (ax_tb y) ∈ lw_tbl := by
  have e := congrArg (fun l => l[y - a]?) h
  simp only [List.getElem?_map, List.getElem?_take, List.getElem?_drop] at e
  rw [if_pos (by omega), if_pos (by omega), show a + (y - a) = y by omega, ax_tb_at (by omega)] at e
  have h3 : y < ax_cp.length := by rw [ax_cp_len]; exact hy
  rw [List.getElem?_eq_getElem h3] at e
  simp only [Option.map_some, Option.some.injEq] at e
  exact List.mem_of_getElem? e.symm
theorem ax_code_in {y : Nat} (hy : y < 249) : ax_cw (ax_tb y) ∈ ax_gw := by
  refine List.mem_filter.mpr ⟨?_, rfl⟩
  rcases Nat.lt_or_ge y 32 with h | h0
  · exact ax_cd_at ax_cd0 (by omega) (by omega) hy
  rcases Nat.lt_or_ge y 64 with h | h0
  · exact ax_cd_at ax_cd32 (by omega) (by omega) hy
  rcases Nat.lt_or_ge y 96 with h | h0
  · exact ax_cd_at ax_cd64 (by omega) (by omega) hy
  rcases Nat.lt_or_ge y 128 with h | h0
  · exact ax_cd_at ax_cd96 (by omega) (by omega) hy
  rcases Nat.lt_or_ge y 160 with h | h0
  · exact ax_cd_at ax_cd128 (by omega) (by omega) hy
  rcases Nat.lt_or_ge y 192 with h | h0
  · exact ax_cd_at ax_cd160 (by omega) (by omega) hy
  rcases Nat.lt_or_ge y 224 with h | h0
  · exact ax_cd_at ax_cd192 (by omega) (by omega) hy
  · exact ax_cd_at ax_cd224 (by omega) (by omega) hy
theorem ax_cok_at {c : Nat} (hc : c < 13) : ax_cok c = true := List.all_eq_true.mp ax_c_ok c (List.mem_range.mpr hc)
theorem ax_cl_at {c : Nat} (hc : c < 13) : ax_cl[c]? = some (ax_Cn c, ax_Tb c, ax_nf c) := by
  have h : c < ax_cl.length := hc
  rw [List.getElem?_eq_getElem h]
  simp [ax_Cn, ax_Tb, ax_nf, List.getD, List.getElem?_eq_getElem h]
/-- a class's fields: their words, their types, their sorts; they differ -/
theorem ax_cls_lay {c : Nat} (hc : c < 13) : ∀ w ∈ u_ws (ax_Cn c) (ax_Tb c) (ax_nf c), w ∈ ax_gw := by
  intro w hw
  obtain ⟨k, hk, rfl⟩ := List.mem_map.mp hw
  have h := ax_cok_at hc
  simp only [ax_cok, Bool.and_eq_true] at h
  have h1 := List.all_eq_true.mp h.1.1 k hk
  simp only [Bool.and_eq_true] at h1
  exact ax_at?_spec h1.1.1.1.1
theorem ax_cls_ty {c : Nat} (hc : c < 13) : ∀ k, k < ax_nf c → parseFieldDescriptor (ax_Tb c k).2.2.1 = some (ax_fy c k) := by
  intro k hk
  have h := ax_cok_at hc
  simp only [ax_cok, Bool.and_eq_true] at h
  have h1 := List.all_eq_true.mp h.1.1 k (List.mem_range.mpr hk)
  simp only [Bool.and_eq_true] at h1
  exact of_decide_eq_true h1.1.1.1.2
theorem ax_cls_own {c : Nat} (hc : c < 13) : ∀ k, k < ax_nf c → (ax_Tb c k).1 = ax_Cn c := by
  intro k hk
  have h := ax_cok_at hc
  simp only [ax_cok, Bool.and_eq_true] at h
  have h1 := List.all_eq_true.mp h.1.1 k (List.mem_range.mpr hk)
  simp only [Bool.and_eq_true] at h1
  exact of_decide_eq_true h1.1.1.2
theorem ax_cls_nm {c : Nat} (hc : c < 13) : ∀ a, a < ax_nf c → ∀ b, b < ax_nf c → a ≠ b → (ax_Tb c a).2.1 ≠ (ax_Tb c b).2.1 := by
  intro a ha b hb hab
  have h := ax_cok_at hc
  simp only [ax_cok, Bool.and_eq_true] at h
  have h1 := List.all_eq_true.mp h.1.1 a (List.mem_range.mpr ha)
  simp only [Bool.and_eq_true] at h1
  have h2 := List.all_eq_true.mp h1.2 b (List.mem_range.mpr hb)
  simp only [Bool.or_eq_true, decide_eq_true_eq] at h2
  rcases h2 with h2 | h2
  · exact absurd h2 hab
  · exact h2
theorem ax_cls_sort {c k : Nat} (hc : c < 13) (hk : k < ax_nf c) : (ax_fy c k = .int ∧ ax_ft c k = 0) ∨ (ax_fy c k = .long ∧ ax_ft c k = 1) ∨ ((∃ t, ax_fy c k = .array t) ∧ ax_ft c k = 2) ∨ ((∃ t, ax_fy c k = .object t) ∧ ax_ft c k = 2) := by
  have h := ax_cok_at hc
  simp only [ax_cok, Bool.and_eq_true] at h
  have h1 := List.all_eq_true.mp h.1.1 k (List.mem_range.mpr hk)
  simp only [Bool.and_eq_true] at h1
  have h2 := h1.1.2
  cases ht : ax_fy c k <;> rw [ht] at h2 <;> simp at h2 <;> simp [h2]
theorem ax_cls_new {c : Nat} (hc : c < 13) : Cond.instantiable (ax_Cn c) (ax_nf c) ∈ ax_gw ∧ Cond.initialized (ax_Cn c) ∈ ax_gw := by
  have h := ax_cok_at hc
  simp only [ax_cok, Bool.and_eq_true] at h
  exact ⟨ax_at?_spec h.1.2, ax_at?_spec h.2⟩
theorem ax_lfl : ax_lf.length = ax_lfp.length := by decide +kernel
theorem ax_lml : ax_lm.length = ax_lmp.length := by decide +kernel
theorem ax_lcl : ax_lc.length = ax_lcp.length := by decide +kernel
theorem ax_kil : ax_ki.length = ax_kip.length := by decide +kernel
theorem ax_kll : ax_kl.length = ax_klp.length := by decide +kernel
theorem ax_ksl : ax_ks.length = ax_ksp.length := by decide +kernel
theorem ax_lsl : ax_ls.length = ax_lsp.length := by decide +kernel
theorem ax_gwf {w : Cond} (h : w ∈ lw_tbl) (g : goodWord w = true) : w ∈ ax_gw := List.mem_filter.mpr ⟨h, g⟩
