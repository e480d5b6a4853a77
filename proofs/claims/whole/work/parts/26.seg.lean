/-! from place to place: a piece of a method's code, up to the next cut -/
def ax_can (ks : List Nat) (lv : ax_L) : ax_L := ks.filterMap (fun i => (ax_lk lv i).map (fun v => (i, v)))
def ax_fc : List (Nat × List Nat) → Nat → Option (List Nat)
  | [], _ => none
  | q :: l, pc => cond (Nat.beq q.1 pc) (some q.2) (ax_fc l pc)
def ax_seg (C : Nat → List ax_V → ax_M → (Option ax_V → ax_M → Prop) → Prop) (tb : Nat → ax_H) (h : ax_H) (cd : Nat → Option ax_X) (cuts : List (Nat × List Nat)) (K : ax_K) (Z : Option ax_V → ax_M → Prop) : Nat → Nat → ax_L → List ax_V → Nat → Nat → ax_M → Prop
  | 0, _, _, _, _, _, _ => False
  | n + 1, pc, lv, st, cl, sl, μ => match cd pc with
    | none => False
    | some E => ax_step C tb h E pc lv st cl sl μ (fun pc' lv' st' cl' sl' μ' => match ax_fc cuts pc' with
      | some ks => K pc' (ax_can ks lv') st' cl' sl' μ'
      | none => ax_seg C tb h cd cuts K Z n pc' lv' st' cl' sl' μ') Z
theorem ax_Rw.sub {l : Launch} {G : ax_G} {h : ax_H} {EE : Program → Env → State → MethodId → Array Value → List Frame → Method → Code → State → Prop} {pc : Nat} {lv lv' : ax_L} {st : List ax_V} {cl sl : Nat} {μ : ax_M} (hsub : ∀ q ∈ lv', q ∈ lv) (k : ax_Rw l G h EE pc lv' st cl sl μ) : ax_Rw l G h EE pc lv st cl sl μ := by
  intro p e s m args below meth c hx H locs ls hH hl hq
  refine k p e s m args below meth c hx H locs ls hH ⟨hl.1, hl.2.1, fun q hq' => ?_⟩ hq
  obtain ⟨q0, h0, rfl⟩ := List.mem_map.mp hq'
  exact hl.2.2 _ (List.mem_map.mpr ⟨q0, hsub q0 h0, rfl⟩)
theorem ax_can_sub (ks : List Nat) (lv : ax_L) : ∀ q ∈ ax_can ks lv, q ∈ lv := by
  intro q hq
  obtain ⟨i, -, hi⟩ := List.mem_filterMap.mp hq
  cases hv : ax_lk lv i with
  | none => rw [hv] at hi; cases hi
  | some v =>
    rw [hv] at hi
    cases hi
    exact ax_lk_mem hv
theorem ax_segS {l : Launch} {G : ax_G} {h : ax_H} {EE : Program → Env → State → MethodId → Array Value → List Frame → Method → Code → State → Prop} {cd : Nat → Option ax_X} {N : Nat} (hok : ax_okc h cd N = true) (hcn : ax_cn.getD (ax_oc h) "" = (ax_nm h).cls) {cuts : List (Nat × List Nat)} {K : ax_K} {Z : Option ax_V → ax_M → Prop}
    (hK : ∀ pc lv st cl sl μ, K pc lv st cl sl μ → ax_Rw l G h EE pc lv st cl sl μ) (hE : EE = ax_E G h Z ∨ ∀ x μ, ¬ Z x μ) : ∀ (n pc : Nat) (lv : ax_L) (st : List ax_V) (cl sl : Nat) (μ : ax_M), ax_seg (ax_Ct l G) ax_tb h (ax_cut N cd) cuts K Z n pc lv st cl sl μ → ax_Rw l G h EE pc lv st cl sl μ
  | 0, _, _, _, _, _, _, hs => hs.elim
  | n + 1, pc, lv, st, cl, sl, μ, hs => by
    unfold ax_seg at hs
    split at hs
    · exact hs.elim
    · rename_i E he
      obtain ⟨hd, hc⟩ := ax_okc_at hok he
      refine ax_snd hcn hd hc (fun pc' lv' st' cl' sl' μ' hk => ?_) hE hs
      split at hk
      · rename_i ks hf
        exact ax_Rw.sub (ax_can_sub ks lv') (hK _ _ _ _ _ _ hk)
      · exact ax_segS hok hcn hK hE n pc' lv' st' cl' sl' μ' hk
/-- a piece of a method, with its own end -/
theorem ax_go {l : Launch} {G : ax_G} {h : ax_H} {cd : Nat → Option ax_X} {N : Nat} {cuts : List (Nat × List Nat)} {Q : Option ax_V → ax_M → Prop} (hok : ax_okc h cd N = true) (hcn : ax_cn.getD (ax_oc h) "" = (ax_nm h).cls) (n : Nat) {pc : Nat} {lv : ax_L} {st : List ax_V} {cl sl : Nat} {μ : ax_M} (hs : ax_seg (ax_Ct l G) ax_tb h (ax_cut N cd) cuts (ax_Rw l G h (ax_E G h Q)) Q n pc lv st cl sl μ) : ax_Rw l G h (ax_E G h Q) pc lv st cl sl μ :=
  ax_segS hok hcn (fun _ _ _ _ _ _ k => k) (Or.inl rfl) n pc lv st cl sl μ hs
/-- a call's answer by its sort -/
def ax_CI (l : Launch) (G : ax_G) (y : Nat) (as : List ax_V) (μ : ax_M) (Q : Int32 → ax_M → Prop) : Prop := ax_Ct l G y as μ (fun x μ' => ∃ v : Int32, x = some (ax_i v) ∧ Q v μ')
def ax_CL (l : Launch) (G : ax_G) (y : Nat) (as : List ax_V) (μ : ax_M) (Q : Int64 → ax_M → Prop) : Prop := ax_Ct l G y as μ (fun x μ' => ∃ v : Int64, x = some (ax_l v) ∧ Q v μ')
def ax_CV (l : Launch) (G : ax_G) (y : Nat) (as : List ax_V) (μ : ax_M) (Q : ax_M → Prop) : Prop := ax_Ct l G y as μ (fun x μ' => x = none ∧ Q μ')
theorem ax_Ct.mono {l : Launch} {G : ax_G} {y : Nat} {as : List ax_V} {μ : ax_M} {Q Q' : Option ax_V → ax_M → Prop} (h : ax_Ct l G y as μ Q) (hq : ∀ x μ', Q x μ' → Q' x μ') : ax_Ct l G y as μ Q' := by
  unfold ax_Ct Met at h ⊢
  refine MetFree.mono h (fun _ _ q => q) (fun _ _ _ _ _ q => q) ?_
  rintro _ _ _ _ _ ⟨⟨x, μ', h1, h2, h3⟩, hF⟩
  exact ⟨⟨x, μ', h1, hq _ _ h2, h3⟩, hF⟩
