def ax_isN (w : Cond) : Bool := match w with
  | .fieldLinkNest .. => true
  | .methodLinkNest .. => true
  | .arrayOver (.array _) => true
  | _ => false
/-- what the tables and the heap at the start say, at every state that the law comes to -/
def ax_KK (G : ax_G) (U : State) : Prop :=
  (∀ c : Nat, c < 13 → u_Kn U (ax_Cn c) (ax_Tb c) (ax_nf c) ((ax_D G).1 c) ((ax_D G).2 c)) ∧
  (∀ k : Nat, 20 ≤ k → k ≤ 28 → ArrOfT U (ax_Y G k) (ax_aT k) ∧ va_RA U (ax_Y G k) (ax_aT k)) ∧
  (∀ w ∈ lw_tbl, ax_isN w = true → va_Nw w U) ∧
  (∀ q ∈ ax_ks, vk_R (ax_cn.getD q.1 "") q.2.1 q.2.2.2 (ax_C G q.2.2.1) U) ∧
  (∀ k : Nat, k < 7 → va_Z (ax_sn k).1 (ax_sn k).2.1 (ax_sn k).2.2.1 (ax_cv G (ax_sn k).2.2.2) (fun q => ax_B G ≤ q) U (ax_Hb G)) ∧
  (∀ a : Nat, a < 64 → ax_C G a < ax_B G ∧ ax_cf G a U) ∧
  (∀ k : Nat, 24 ≤ k → k ≤ 27 → ∀ c, c < 13 → ax_aT k = .object (ax_Cn c) → va_AO (ax_Cn c) U) ∧
  (ax_Hb G).size = ax_B G ∧ mK (ax_0 G) 6 = 99
theorem ax_cf.moved {G : ax_G} {a : Nat} {u U : State} (hvm : u.vm.Alike U.vm) (h : ax_cf G a u) : ax_cf G a U :=
  ⟨fun e => ⟨va_O.moved hvm (h.1 e).1, va_OF.moved hvm (h.1 e).2.1, va_OF.moved hvm (h.1 e).2.2⟩, fun e1 e2 => va_T.moved hvm (h.2.1 e1 e2), h.2.2⟩
theorem ax_KK.warm {G : ax_G} {s U : State} (hW : s.WarmedH U.vm) (h : ax_KK G s) : ax_KK G U := by
  obtain ⟨h1, h2, h3, h4, h5, h6, h7, h8⟩ := h
  refine ⟨fun c hc => u_Kn_moved hW.alike (h1 c hc), fun k a b => ⟨arrOfT_moved hW.alike (h2 k a b).1, (h2 k a b).2.moved hW.alike⟩, fun w hw hn => ?_, fun q hq => vk_R.warm hW (h4 q hq), fun k hk => va_Z.moved hW.alike (h5 k hk), fun a ha => ⟨(h6 a ha).1, (h6 a ha).2.moved hW.alike⟩, fun k a b c hc e => va_AO.moved hW.alike (h7 k a b c hc e), h8⟩
  have := h3 w hw hn
  cases w with
  | arrayOver t => cases t <;> first | exact over_moved hW.alike this | (exfalso; revert hn; simp [ax_isN])
  | methodLinkNest => first | exact va_Nw.warmM hW this | exact va_Nw.warmF hW this
  | fieldLinkNest => first | exact va_Nw.warmM hW this | exact va_Nw.warmF hW this
  | _ => exfalso; revert hn; simp [ax_isN]
theorem ax_KK.same {G : ax_G} {s U : State} (hv : s.vm = U.vm) (h : ax_KK G s) : ax_KK G U := by
  obtain ⟨h1, h2, h3, h4, h5, h6, h7, h8⟩ := h
  have hA : s.vm.Alike U.vm := by rw [hv]; exact Vm.Alike.refl _
  refine ⟨fun c hc => u_Kn_moved hA (h1 c hc), fun k a b => ⟨arrOfT_moved hA (h2 k a b).1, (h2 k a b).2.moved hA⟩, fun w hw hn => ?_, fun q hq => vk_R.same hv.symm (h4 q hq), fun k hk => va_Z.moved hA (h5 k hk), fun a ha => ⟨(h6 a ha).1, (h6 a ha).2.moved hA⟩, fun k a b c hc e => va_AO.moved hA (h7 k a b c hc e), h8⟩
  have := h3 w hw hn
  cases w with
  | arrayOver t => cases t <;> first | exact over_moved hA this | (exfalso; revert hn; simp [ax_isN])
  | methodLinkNest => exact va_Nw.same rfl hv this
  | fieldLinkNest => exact va_Nw.same rfl hv this
  | _ => exfalso; revert hn; simp [ax_isN]
def ax_gt (h : ax_H) : List Cond := ax_cw h :: ax_gw
/-- a method's start and end -/
def ax_Pc (G : ax_G) (as : List ax_V) (μ : ax_M) : Array Value → State → Prop := va_Pc (as.map (ax_cv G)) (fun U => ax_Hd G μ U.heap ∧ ax_KK G U)
def ax_Qc (G : ax_G) (Q : Option ax_V → ax_M → Prop) : Array Value → State → Outcome → State → Prop := fun _ _ oc t => ∃ (x : Option ax_V) (μ : ax_M), oc = .returned (x.map (ax_cv G)) ∧ Q x μ ∧ ax_Hd G μ t.heap
def ax_fr (G : ax_G) : Addr → Prop := fun q => ax_B G ≤ q
/-- method y, called with these arguments in this memory, comes back with Q -/
def ax_Ct (l : Launch) (G : ax_G) (y : Nat) (as : List ax_V) (μ : ax_M) (Q : Option ax_V → ax_M → Prop) : Prop :=
  Met l (ax_nm (ax_tb y)) (ax_gt (ax_tb y)) (ax_rm (ax_tb y)) (ax_Pc G as μ) (ax_Qc G Q) (ax_mc (ax_tb y)) (ax_ms (ax_tb y)) (ax_fr G)
/-- what holds inside a method -/
def ax_Cx (p : Program) (s : State) (m : MethodId) (args : Array Value) (meth : Method) (c : Code) (h : ax_H) (G : ax_G) : Prop :=
  p.tables.exec = Jvm.exec ∧ c.code = ax_by h ∧ meth.sig.returnType = ax_rt h ∧ meth.locks = false ∧ c.maxLocals = ax_ml h ∧ s.vm.findClass (ax_nm h).cls = some m.cls ∧ meth.name = (ax_nm h).name ∧ (∀ w ∈ ax_gw, w.before args s = true) ∧ ax_KK G s
def ax_c1 (G : ax_G) (q : Nat × ax_V) : Nat × Value := (q.1, ax_cv G q.2)
/-- the machine at a place of a method, with these locals, this stack, this memory, comes to an end E -/
def ax_Rw (l : Launch) (G : ax_G) (h : ax_H) (E : Program → Env → State → MethodId → Array Value → List Frame → Method → Code → State → Prop) (pc : Nat) (lv : ax_L) (st : List ax_V) (cl sl : Nat) (μ : ax_M) : Prop :=
  ∀ (p : Program) (e : Env) (s : State) (m : MethodId) (args : Array Value) (below : List Frame) (meth : Method) (c : Code), ax_Cx p s m args meth c h G → ∀ (H : Heap) (locs : List Loc) (ls : Array Slot), ax_Hd G μ H → lv_has ls (ax_ml h) (lv.map (ax_c1 G)) → (∀ q ∈ locs, ax_fr G q.base) →
    W p l e (ax_rm h) s m args below meth c H locs cl sl (E p e s m args below meth c) (F0 m pc ls (st.map (ax_cv G)))
/-- a method's own end -/
def ax_E (G : ax_G) (h : ax_H) (Q : Option ax_V → ax_M → Prop) : Program → Env → State → MethodId → Array Value → List Frame → Method → Code → State → Prop := fun _ _ s _ args below _ _ => MQ below (ax_Qc G Q) args s (ax_mc h) (ax_ms h) (ax_fr G)
theorem ax_cat_cv (G : ax_G) (v : ax_V) : (ax_cv G v).category = ax_cat v := by
  rcases v with x | x | x
  · rfl
  · rfl
  · show (va_rf (ax_ao G x)).category = 1
    cases ax_ao G x <;> rfl
theorem ax_sum_cv (G : ax_G) : ∀ st : List ax_V, ((st.map (ax_cv G)).map fun v => v.category).sum = ax_sum st
  | [] => rfl
  | v :: st => by
    show (ax_cv G v).category + ((st.map (ax_cv G)).map fun v => v.category).sum = ax_cat v + ax_sum st
    rw [ax_cat_cv, ax_sum_cv G st]
theorem ax_lk_mem : ∀ {lv : ax_L} {i : Nat} {v : ax_V}, ax_lk lv i = some v → (i, v) ∈ lv
  | [], _, _, h => by cases h
  | q :: l, i, v, h => by
    unfold ax_lk at h
    split at h
    · rename_i e
      cases h
      rw [← e]
      exact List.mem_cons_self
    · exact List.mem_cons_of_mem _ (ax_lk_mem h)
theorem ax_has {G : ax_G} {ls : Array Slot} {n : Nat} {lv : ax_L} (h : lv_has ls n (lv.map (ax_c1 G))) {i : Nat} {v : ax_V} (hk : ax_lk lv i = some v) : ls[i]? = some (.val (ax_cv G v)) := h.2.2 (i, ax_cv G v) (List.mem_map.mpr ⟨(i, v), ax_lk_mem hk, rfl⟩)
theorem ax_filt (G : ax_G) (f : Nat × Value → Bool) (g : Nat × ax_V → Bool) (h : ∀ q, f (ax_c1 G q) = g q) (lv : ax_L) : (lv.map (ax_c1 G)).filter f = (lv.filter g).map (ax_c1 G) := by
  rw [List.filter_map]
  congr 2
  funext q
  exact h q
theorem ax_sto1 (G : ax_G) (lv : ax_L) (i : Nat) (v : ax_V) (hv : ax_cat v = 1) : (i, ax_cv G v) :: (lv.map (ax_c1 G)).filter (fun q => !(q.1 == i) && !(q.1 + 1 == i && q.2.category == 2)) = (ax_sto lv i v).map (ax_c1 G) := by
  rw [ax_filt G _ (fun q => !(q.1 == i) && !(q.1 + 1 == i && ax_cat q.2 == 2)) (fun q => by simp [ax_c1, ax_cat_cv])]
  rcases v with x | x | x
  · rfl
  · simp [ax_cat] at hv
  · rfl
theorem ax_sto2 (G : ax_G) (lv : ax_L) (i : Nat) (x : Int64) : (i, Value.long x) :: (lv.map (ax_c1 G)).filter (fun q => !(q.1 == i) && (!(q.1 == i + 1) && !(q.1 + 1 == i && q.2.category == 2))) = (ax_sto lv i (ax_l x)).map (ax_c1 G) := by
  rw [ax_filt G _ (fun q => !(q.1 == i) && (!(q.1 == i + 1) && !(q.1 + 1 == i && ax_cat q.2 == 2))) (fun q => by simp [ax_c1, ax_cat_cv])]
  rfl
theorem ax_ent_cv (G : ax_G) : ∀ (as : List ax_V) (i : Nat), lv_args i (as.map (ax_cv G)) = (ax_ent i as).map (ax_c1 G)
  | [], _ => rfl
  | v :: as, i => by
    show (i, ax_cv G v) :: lv_args (if (ax_cv G v).category = 2 then i + 2 else i + 1) (as.map (ax_cv G)) = (i, ax_cv G v) :: (ax_ent (i + ax_cat v) as).map (ax_c1 G)
    rw [← ax_ent_cv G as (i + ax_cat v), ax_cat_cv]
    rcases v with x | x | x <;> rfl
theorem ax_len_cv (G : ax_G) : ∀ as : List ax_V, (lg_sl (as.map (ax_cv G))).length = ax_sum as
  | [] => rfl
  | v :: as => by
    have ih := ax_len_cv G as
    simp only [lg_sl] at ih ⊢
    rw [List.map_cons, List.flatMap_cons, List.length_append, ih, ax_cat_cv]
    rcases v with x | x | x <;> simp [ax_cat, ax_sum]
/-- a method's contract, out of its body's walk -/
theorem ax_Ct.of {l : Launch} {G : ax_G} {y : Nat} (hy : y < 249) {as : List ax_V} {μ : ax_M} {Q : Option ax_V → ax_M → Prop} (hs : ax_sum as ≤ ax_ml (ax_tb y)) (h : ax_Rw l G (ax_tb y) (ax_E G (ax_tb y) Q) 0 (ax_ent 0 as) [] 0 0 μ) : ax_Ct l G y as μ Q := by
  have hm := ax_mok_at (show y < 250 by omega)
  have hpn : _root_.Jvm.plainName (ax_nm (ax_tb y)).cls = true := by
    simp only [ax_mok, Bool.or_eq_true, Bool.and_eq_true, decide_eq_true_eq] at hm
    rcases hm with hm | hm
    · exact absurd hm ((show ∀ y, y < 249 → (ax_mq y).1 ≠ 0 by decide +kernel) y hy)
    · exact hm.1.1.2
  refine Met.ofW (cc := ax_by (ax_tb y)) (maxL := ax_ml (ax_tb y)) (ret := ax_rt (ax_tb y)) hpn rfl ?_
  intro p e s m args below meth c s₁ B hml hv
  obtain ⟨rfl, hH, hKK⟩ := hv
  have hts := atoms_spec (ws := ax_gt (ax_tb y)) B.pre
  have hl := lv_entry (as.map (ax_cv G)) (n := ax_ml (ax_tb y)) (by rw [ax_len_cv]; exact hs)
  rw [lg_entry_eq]
  rw [ax_ent_cv] at hl
  exact h p e s m _ below meth c ⟨B.exec, B.bytes, B.returns, B.notSynchronized, hml, findClass_of_methodNamed B.named, (name_of_methodNamed B.named B.method).1, fun w hw => hts w (List.mem_cons_of_mem _ hw), hKK⟩ s.heap [] _ hH hl (fun q hq => by cases hq)
