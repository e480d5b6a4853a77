theorem ax_sw_out {x : Int32} {d : Nat} {k : Nat → Prop} : ∀ (v : Nat) (ts : List Nat), ax_sw x d k v ts → (∀ j, j < ts.length → x ≠ nI (v + j)) → k d
  | _, [], h, _ => h
  | v, t :: ts, h, hn => ax_sw_out (v + 1) ts (h.2 (fun e => hn 0 (by simp) (by rw [e]; rfl))) (fun j hj => by have := hn (j + 1) (by simp; omega); rwa [show v + (j + 1) = v + 1 + j by omega] at this)
theorem ax_sw_in {x : Int32} {d : Nat} {k : Nat → Prop} : ∀ (v : Nat) (ts : List Nat), ax_sw x d k v ts → ∀ (j : Nat) {t : Nat}, ts[j]? = some t → x = nI (v + j) → v + ts.length < 2 ^ 31 → k t
  | _, [], _, _, _, hj, _, _ => by cases hj
  | v, t0 :: ts, h, 0, t, hj, hx, hb => by
    cases hj
    exact h.1 hx
  | v, t0 :: ts, h, j + 1, t, hj, hx, hb => by
    have hl : j < ts.length := by
      have := (List.getElem?_eq_some_iff.mp hj).1
      simpa using this
    simp only [List.length_cons] at hb
    refine ax_sw_in (v + 1) ts (h.2 (fun e => ?_)) j (by simpa using hj) (by rw [hx]; congr 1; omega) (by omega)
    rw [hx] at e
    have := (nI_eq (a := v + (j + 1)) (b := v) (by omega) (by omega)).mp e
    omega
set_option maxHeartbeats 4000000 in
theorem ax_snd {l : Launch} {G : ax_G} {h : ax_H} {EE : Program → Env → State → MethodId → Array Value → List Frame → Method → Code → State → Prop} {pc : Nat} {lv : ax_L} {st : List ax_V} {cl sl : Nat} {μ : ax_M} {E : ax_X} {K : ax_K} {Z : Option ax_V → ax_M → Prop} (hcn : ax_cn.getD (ax_oc h) "" = (ax_nm h).cls) (hd : decode (ax_by h) pc = .ok (E.1, E.2.1)) (hc : ax_chk h pc E = true)
    (hK : ∀ pc lv st cl sl μ, K pc lv st cl sl μ → ax_Rw l G h EE pc lv st cl sl μ) (hE : EE = ax_E G h Z ∨ ∀ x μ, ¬ Z x μ) (hs : ax_step (ax_Ct l G) ax_tb h E pc lv st cl sl μ K Z) : ax_Rw l G h EE pc lv st cl sl μ := by
  obtain ⟨i, len, ps, v⟩ := E
  have hd : decode (ax_by h) pc = .ok (i, len) := hd
  cases i with
  | iconst n =>
    simp only [ax_chk, Bool.and_eq_true, decide_eq_true_eq] at hc
    obtain ⟨rfl, rfl⟩ := hc
    exact ax_s_iconst hd rfl (hK _ _ _ _ _ _ hs)
  | bipush n =>
    simp only [ax_chk, Bool.and_eq_true, decide_eq_true_eq] at hc
    obtain ⟨rfl, rfl⟩ := hc
    exact ax_s_bipush hd rfl (hK _ _ _ _ _ _ hs)
  | sipush n =>
    simp only [ax_chk, Bool.and_eq_true, decide_eq_true_eq] at hc
    obtain ⟨rfl, rfl⟩ := hc
    exact ax_s_sipush hd rfl (hK _ _ _ _ _ _ hs)
  | lconst n =>
    simp only [ax_chk, Bool.and_eq_true, decide_eq_true_eq] at hc
    obtain ⟨rfl, rfl⟩ := hc
    exact ax_s_lconst hd rfl (hK _ _ _ _ _ _ hs)
  | ldc n =>
    simp only [ax_chk, Bool.and_eq_true, decide_eq_true_eq] at hc
    obtain ⟨rfl, hc⟩ := hc
    split at hc
    · split at hc
      · rename_i q hq
        simp only [Bool.and_eq_true, decide_eq_true_eq] at hc
        obtain ⟨⟨e1, e2⟩, rfl⟩ := hc
        have hw := ax_of_all ax_ki_ok ax_kil hq
        unfold ax_wi at hw
        rw [e1, e2, hcn] at hw
        exact ax_s_ldcI hd (ax_gwf hw rfl) (hK _ _ _ _ _ _ hs)
      · cases hc
    · split at hc
      · rename_i q hq
        simp only [Bool.and_eq_true, decide_eq_true_eq] at hc
        obtain ⟨⟨⟨⟨e1, e2⟩, rfl⟩, e3⟩, e4⟩ := hc
        exact ax_s_ldcS hd (by rw [← e1, ← e2]; exact List.mem_of_getElem? hq) hcn (Nat.lt_succ_of_le (Nat.le_of_ble_eq_true e3)) (Nat.le_of_ble_eq_true e4) (hK _ _ _ _ _ _ hs)
      · cases hc
  | ldc_w n =>
    simp only [ax_chk, Bool.and_eq_true, decide_eq_true_eq] at hc
    obtain ⟨rfl, hc⟩ := hc
    split at hc
    · split at hc
      · rename_i q hq
        simp only [Bool.and_eq_true, decide_eq_true_eq] at hc
        obtain ⟨⟨e1, e2⟩, rfl⟩ := hc
        have hw := ax_of_all ax_ki_ok ax_kil hq
        unfold ax_wi at hw
        rw [e1, e2, hcn] at hw
        exact ax_s_ldcwI hd (ax_gwf hw rfl) (hK _ _ _ _ _ _ hs)
      · cases hc
    · split at hc
      · rename_i q hq
        simp only [Bool.and_eq_true, decide_eq_true_eq] at hc
        obtain ⟨⟨⟨⟨e1, e2⟩, rfl⟩, e3⟩, e4⟩ := hc
        exact ax_s_ldcwS hd (by rw [← e1, ← e2]; exact List.mem_of_getElem? hq) hcn (Nat.lt_succ_of_le (Nat.le_of_ble_eq_true e3)) (Nat.le_of_ble_eq_true e4) (hK _ _ _ _ _ _ hs)
      · cases hc
  | ldc2_w n =>
    simp only [ax_chk, Bool.and_eq_true, decide_eq_true_eq] at hc
    obtain ⟨rfl, hc⟩ := hc
    split at hc
    · rename_i q hq
      simp only [Bool.and_eq_true, decide_eq_true_eq] at hc
      obtain ⟨⟨e1, e2⟩, rfl⟩ := hc
      have hw := ax_of_all ax_kl_ok ax_kll hq
      unfold ax_wl at hw
      rw [e1, e2, hcn] at hw
      exact ax_s_ldc2 hd (ax_gwf hw rfl) (hK _ _ _ _ _ _ hs)
    · cases hc
  | getstatic n =>
    simp only [ax_chk, Bool.and_eq_true, decide_eq_true_eq] at hc
    obtain ⟨rfl, hc⟩ := hc
    split at hc
    · rename_i q hq
      simp only [Bool.and_eq_true, decide_eq_true_eq] at hc
      obtain ⟨⟨⟨e1, e2⟩, e3⟩, rfl⟩ := hc
      have hw := ax_of_all ax_ls_ok ax_lsl hq
      unfold ax_wt at hw
      rw [e1, e2, hcn] at hw
      exact ax_s_gets hd (ax_gwf hw rfl) (Nat.lt_succ_of_le (Nat.le_of_ble_eq_true e3)) (hK _ _ _ _ _ _ hs)
    · cases hc
  | iload n =>
    simp only [ax_chk, Bool.and_eq_true, decide_eq_true_eq] at hc
    obtain ⟨rfl, e0⟩ := hc
    dsimp only [ax_step] at hs
    split at hs
    · rename_i hv
      rw [e0] at hv
      exact ax_s_iload hd hv (hK _ _ _ _ _ _ hs)
    · exact hs.elim
  | iload_n n =>
    simp only [ax_chk, Bool.and_eq_true, decide_eq_true_eq] at hc
    obtain ⟨rfl, e0⟩ := hc
    dsimp only [ax_step] at hs
    split at hs
    · rename_i hv
      rw [e0] at hv
      exact ax_s_iload_n hd hv (hK _ _ _ _ _ _ hs)
    · exact hs.elim
  | lload n =>
    simp only [ax_chk, Bool.and_eq_true, decide_eq_true_eq] at hc
    obtain ⟨rfl, e0⟩ := hc
    dsimp only [ax_step] at hs
    split at hs
    · rename_i hv
      rw [e0] at hv
      exact ax_s_lload hd hv (hK _ _ _ _ _ _ hs)
    · exact hs.elim
  | lload_n n =>
    simp only [ax_chk, Bool.and_eq_true, decide_eq_true_eq] at hc
    obtain ⟨rfl, e0⟩ := hc
    dsimp only [ax_step] at hs
    split at hs
    · rename_i hv
      rw [e0] at hv
      exact ax_s_lload_n hd hv (hK _ _ _ _ _ _ hs)
    · exact hs.elim
  | aload n =>
    simp only [ax_chk, Bool.and_eq_true, decide_eq_true_eq] at hc
    obtain ⟨rfl, e0⟩ := hc
    dsimp only [ax_step] at hs
    split at hs
    · rename_i hv
      rw [e0] at hv
      exact ax_s_aload hd hv (hK _ _ _ _ _ _ hs)
    · exact hs.elim
  | aload_n n =>
    simp only [ax_chk, Bool.and_eq_true, decide_eq_true_eq] at hc
    obtain ⟨rfl, e0⟩ := hc
    dsimp only [ax_step] at hs
    split at hs
    · rename_i hv
      rw [e0] at hv
      exact ax_s_aload_n hd hv (hK _ _ _ _ _ _ hs)
    · exact hs.elim
  | istore n =>
    simp only [ax_chk, Bool.and_eq_true, decide_eq_true_eq] at hc
    obtain ⟨⟨rfl, e0⟩, e1⟩ := hc
    dsimp only [ax_step] at hs
    split at hs
    · rw [e0] at hs
      cases hb : Nat.beq (ax_p (Instr.istore n, _, ps, v) 1) 1 with
      | true => rw [hb] at hs; exact ax_s_istore hd (Nat.le_of_ble_eq_true e1) (hK _ _ _ _ _ _ (hs _ rfl))
      | false => rw [hb] at hs; exact ax_s_istore hd (Nat.le_of_ble_eq_true e1) (hK _ _ _ _ _ _ hs)
    · exact hs.elim
  | istore_n n =>
    simp only [ax_chk, Bool.and_eq_true, decide_eq_true_eq] at hc
    obtain ⟨⟨rfl, e0⟩, e1⟩ := hc
    dsimp only [ax_step] at hs
    split at hs
    · rw [e0] at hs
      cases hb : Nat.beq (ax_p (Instr.istore_n n, _, ps, v) 1) 1 with
      | true => rw [hb] at hs; exact ax_s_istore_n hd (Nat.le_of_ble_eq_true e1) (hK _ _ _ _ _ _ (hs _ rfl))
      | false => rw [hb] at hs; exact ax_s_istore_n hd (Nat.le_of_ble_eq_true e1) (hK _ _ _ _ _ _ hs)
    · exact hs.elim
  | lstore n =>
    simp only [ax_chk, Bool.and_eq_true, decide_eq_true_eq] at hc
    obtain ⟨⟨rfl, e0⟩, e1⟩ := hc
    dsimp only [ax_step] at hs
    split at hs
    · rw [e0] at hs
      cases hb : Nat.beq (ax_p (Instr.lstore n, _, ps, v) 1) 1 with
      | true => rw [hb] at hs; exact ax_s_lstore hd (Nat.le_of_ble_eq_true e1) (hK _ _ _ _ _ _ (hs _ rfl))
      | false => rw [hb] at hs; exact ax_s_lstore hd (Nat.le_of_ble_eq_true e1) (hK _ _ _ _ _ _ hs)
    · exact hs.elim
  | lstore_n n =>
    simp only [ax_chk, Bool.and_eq_true, decide_eq_true_eq] at hc
    obtain ⟨⟨rfl, e0⟩, e1⟩ := hc
    dsimp only [ax_step] at hs
    split at hs
    · rw [e0] at hs
      cases hb : Nat.beq (ax_p (Instr.lstore_n n, _, ps, v) 1) 1 with
      | true => rw [hb] at hs; exact ax_s_lstore_n hd (Nat.le_of_ble_eq_true e1) (hK _ _ _ _ _ _ (hs _ rfl))
      | false => rw [hb] at hs; exact ax_s_lstore_n hd (Nat.le_of_ble_eq_true e1) (hK _ _ _ _ _ _ hs)
    · exact hs.elim
  | astore n =>
    simp only [ax_chk, Bool.and_eq_true, decide_eq_true_eq] at hc
    obtain ⟨⟨rfl, e0⟩, e1⟩ := hc
    dsimp only [ax_step] at hs
    split at hs
    · rw [e0] at hs
      exact ax_s_astore hd (Nat.le_of_ble_eq_true e1) (hK _ _ _ _ _ _ hs)
    · exact hs.elim
  | astore_n n =>
    simp only [ax_chk, Bool.and_eq_true, decide_eq_true_eq] at hc
    obtain ⟨⟨rfl, e0⟩, e1⟩ := hc
    dsimp only [ax_step] at hs
    split at hs
    · rw [e0] at hs
      exact ax_s_astore_n hd (Nat.le_of_ble_eq_true e1) (hK _ _ _ _ _ _ hs)
    · exact hs.elim
  | iinc n d =>
    simp only [ax_chk, Bool.and_eq_true, decide_eq_true_eq] at hc
    obtain ⟨⟨⟨rfl, e0⟩, e1⟩, rfl⟩ := hc
    dsimp only [ax_step] at hs
    split at hs
    · rename_i x d hv he
      cases he
      rw [e0] at hv hs
      exact ax_s_iinc hd hv (Nat.le_of_ble_eq_true e1) rfl (hK _ _ _ _ _ _ hs)
    · exact hs.elim
  | iadd =>
    simp only [ax_chk, Bool.and_eq_true, decide_eq_true_eq] at hc
    subst hc
    dsimp only [ax_step] at hs
    split at hs
    · exact ax_s_iadd hd (hK _ _ _ _ _ _ hs)
    · exact hs.elim
  | isub =>
    simp only [ax_chk, Bool.and_eq_true, decide_eq_true_eq] at hc
    subst hc
    dsimp only [ax_step] at hs
    split at hs
    · exact ax_s_isub hd (hK _ _ _ _ _ _ hs)
    · exact hs.elim
  | imul =>
    simp only [ax_chk, Bool.and_eq_true, decide_eq_true_eq] at hc
    subst hc
    dsimp only [ax_step] at hs
    split at hs
    · exact ax_s_imul hd (hK _ _ _ _ _ _ hs)
    · exact hs.elim
  | ineg =>
    simp only [ax_chk, Bool.and_eq_true, decide_eq_true_eq] at hc
    subst hc
    dsimp only [ax_step] at hs
    split at hs
    · exact ax_s_ineg hd (hK _ _ _ _ _ _ hs)
    · exact hs.elim
  | iand =>
    simp only [ax_chk, Bool.and_eq_true, decide_eq_true_eq] at hc
    subst hc
    dsimp only [ax_step] at hs
    split at hs
    · exact ax_s_iand hd (hK _ _ _ _ _ _ hs)
    · exact hs.elim
  | ishl =>
    simp only [ax_chk, Bool.and_eq_true, decide_eq_true_eq] at hc
    subst hc
    dsimp only [ax_step] at hs
    split at hs
    · exact ax_s_ishl hd (hK _ _ _ _ _ _ hs)
    · exact hs.elim
  | ishr =>
    simp only [ax_chk, Bool.and_eq_true, decide_eq_true_eq] at hc
    subst hc
    dsimp only [ax_step] at hs
    split at hs
    · exact ax_s_ishr hd (hK _ _ _ _ _ _ hs)
    · exact hs.elim
  | iushr =>
    simp only [ax_chk, Bool.and_eq_true, decide_eq_true_eq] at hc
    subst hc
    dsimp only [ax_step] at hs
    split at hs
    · exact ax_s_iushr hd (hK _ _ _ _ _ _ hs)
    · exact hs.elim
  | ladd =>
    simp only [ax_chk, Bool.and_eq_true, decide_eq_true_eq] at hc
    subst hc
    dsimp only [ax_step] at hs
    split at hs
    · exact ax_s_ladd hd (hK _ _ _ _ _ _ hs)
    · exact hs.elim
  | lmul =>
    simp only [ax_chk, Bool.and_eq_true, decide_eq_true_eq] at hc
    subst hc
    dsimp only [ax_step] at hs
    split at hs
    · exact ax_s_lmul hd (hK _ _ _ _ _ _ hs)
    · exact hs.elim
  | lor =>
    simp only [ax_chk, Bool.and_eq_true, decide_eq_true_eq] at hc
    subst hc
    dsimp only [ax_step] at hs
    split at hs
    · exact ax_s_lor hd (hK _ _ _ _ _ _ hs)
    · exact hs.elim
  | lshl =>
    simp only [ax_chk, Bool.and_eq_true, decide_eq_true_eq] at hc
    subst hc
    dsimp only [ax_step] at hs
    split at hs
    · exact ax_s_lshl hd (hK _ _ _ _ _ _ hs)
    · exact hs.elim
  | lcmp =>
    simp only [ax_chk, Bool.and_eq_true, decide_eq_true_eq] at hc
    subst hc
    dsimp only [ax_step] at hs
    split at hs
    · exact ax_s_lcmp hd (hK _ _ _ _ _ _ hs)
    · exact hs.elim
  | i2l =>
    simp only [ax_chk, Bool.and_eq_true, decide_eq_true_eq] at hc
    subst hc
    dsimp only [ax_step] at hs
    split at hs
    · exact ax_s_i2l hd (hK _ _ _ _ _ _ hs)
    · exact hs.elim
  | l2i =>
    simp only [ax_chk, Bool.and_eq_true, decide_eq_true_eq] at hc
    subst hc
    dsimp only [ax_step] at hs
    split at hs
    · exact ax_s_l2i hd (hK _ _ _ _ _ _ hs)
    · exact hs.elim
  | i2b =>
    simp only [ax_chk, Bool.and_eq_true, decide_eq_true_eq] at hc
    subst hc
    dsimp only [ax_step] at hs
    split at hs
    · exact ax_s_i2b hd (hK _ _ _ _ _ _ hs)
    · exact hs.elim
  | i2c =>
    simp only [ax_chk, Bool.and_eq_true, decide_eq_true_eq] at hc
    subst hc
    dsimp only [ax_step] at hs
    split at hs
    · exact ax_s_i2c hd (hK _ _ _ _ _ _ hs)
    · exact hs.elim
  | idiv =>
    simp only [ax_chk, Bool.and_eq_true, decide_eq_true_eq] at hc
    subst hc
    dsimp only [ax_step] at hs
    split at hs
    · exact ax_s_idiv hd hs.1 (hK _ _ _ _ _ _ hs.2)
    · exact hs.elim
  | irem =>
    simp only [ax_chk, Bool.and_eq_true, decide_eq_true_eq] at hc
    subst hc
    dsimp only [ax_step] at hs
    split at hs
    · exact ax_s_irem hd hs.1 (hK _ _ _ _ _ _ hs.2)
    · exact hs.elim
  | ldiv =>
    simp only [ax_chk, Bool.and_eq_true, decide_eq_true_eq] at hc
    subst hc
    dsimp only [ax_step] at hs
    split at hs
    · exact ax_s_ldiv hd hs.1 (hK _ _ _ _ _ _ hs.2)
    · exact hs.elim
  | dup =>
    simp only [ax_chk, Bool.and_eq_true, decide_eq_true_eq] at hc
    subst hc
    dsimp only [ax_step] at hs
    split at hs
    · exact ax_s_dup hd rfl (hK _ _ _ _ _ _ hs)
    · exact ax_s_dup hd rfl (hK _ _ _ _ _ _ hs)
    · exact hs.elim
  | pop =>
    simp only [ax_chk, Bool.and_eq_true, decide_eq_true_eq] at hc
    subst hc
    dsimp only [ax_step] at hs
    split at hs
    · exact ax_s_pop hd rfl (hK _ _ _ _ _ _ hs)
    · exact ax_s_pop hd rfl (hK _ _ _ _ _ _ hs)
    · exact hs.elim
  | dup2 =>
    simp only [ax_chk, Bool.and_eq_true, decide_eq_true_eq] at hc
    subst hc
    dsimp only [ax_step] at hs
    split at hs
    · exact ax_s_dup2 hd rfl rfl (hK _ _ _ _ _ _ hs)
    · exact hs.elim
  | goto off =>
    simp only [ax_chk, Bool.and_eq_true, decide_eq_true_eq] at hc
    obtain ⟨rfl, e0⟩ := hc
    exact ax_s_goto hd e0 (hK _ _ _ _ _ _ hs)
  | ifCond cd off =>
    simp only [ax_chk, Bool.and_eq_true, decide_eq_true_eq] at hc
    obtain ⟨rfl, e0⟩ := hc
    cases cd <;> dsimp only [ax_step] at hs <;> split at hs
    · exact ax_s_if_eq hd e0 ⟨fun q => hK _ _ _ _ _ _ (hs.1 q), fun q => hK _ _ _ _ _ _ (hs.2 q)⟩
    · exact hs.elim
    · exact ax_s_if_ne hd e0 ⟨fun q => hK _ _ _ _ _ _ (hs.1 q), fun q => hK _ _ _ _ _ _ (hs.2 q)⟩
    · exact hs.elim
    · exact ax_s_if_lt hd e0 ⟨fun q => hK _ _ _ _ _ _ (hs.1 q), fun q => hK _ _ _ _ _ _ (hs.2 q)⟩
    · exact hs.elim
    · exact ax_s_if_ge hd e0 ⟨fun q => hK _ _ _ _ _ _ (hs.1 q), fun q => hK _ _ _ _ _ _ (hs.2 q)⟩
    · exact hs.elim
    · exact ax_s_if_gt hd e0 ⟨fun q => hK _ _ _ _ _ _ (hs.1 q), fun q => hK _ _ _ _ _ _ (hs.2 q)⟩
    · exact hs.elim
    · exact ax_s_if_le hd e0 ⟨fun q => hK _ _ _ _ _ _ (hs.1 q), fun q => hK _ _ _ _ _ _ (hs.2 q)⟩
    · exact hs.elim
  | if_icmp cd off =>
    simp only [ax_chk, Bool.and_eq_true, decide_eq_true_eq] at hc
    obtain ⟨rfl, e0⟩ := hc
    cases cd <;> dsimp only [ax_step] at hs <;> split at hs
    · exact ax_s_icmp_eq hd e0 ⟨fun q => hK _ _ _ _ _ _ (hs.1 q), fun q => hK _ _ _ _ _ _ (hs.2 q)⟩
    · exact hs.elim
    · exact ax_s_icmp_ne hd e0 ⟨fun q => hK _ _ _ _ _ _ (hs.1 q), fun q => hK _ _ _ _ _ _ (hs.2 q)⟩
    · exact hs.elim
    · exact ax_s_icmp_lt hd e0 ⟨fun q => hK _ _ _ _ _ _ (hs.1 q), fun q => hK _ _ _ _ _ _ (hs.2 q)⟩
    · exact hs.elim
    · exact ax_s_icmp_ge hd e0 ⟨fun q => hK _ _ _ _ _ _ (hs.1 q), fun q => hK _ _ _ _ _ _ (hs.2 q)⟩
    · exact hs.elim
    · exact ax_s_icmp_gt hd e0 ⟨fun q => hK _ _ _ _ _ _ (hs.1 q), fun q => hK _ _ _ _ _ _ (hs.2 q)⟩
    · exact hs.elim
    · exact ax_s_icmp_le hd e0 ⟨fun q => hK _ _ _ _ _ _ (hs.1 q), fun q => hK _ _ _ _ _ _ (hs.2 q)⟩
    · exact hs.elim
  | ifnull off =>
    simp only [ax_chk, Bool.and_eq_true, decide_eq_true_eq] at hc
    obtain ⟨rfl, e0⟩ := hc
    dsimp only [ax_step] at hs
    split at hs
    · exact ax_s_ifnull hd e0 ⟨fun q => hK _ _ _ _ _ _ (hs.1 q), fun q => ⟨(hs.2 q).1, hK _ _ _ _ _ _ (hs.2 q).2⟩⟩
    · exact hs.elim
  | ifnonnull off =>
    simp only [ax_chk, Bool.and_eq_true, decide_eq_true_eq] at hc
    obtain ⟨rfl, e0⟩ := hc
    dsimp only [ax_step] at hs
    split at hs
    · exact ax_s_ifnonnull hd e0 ⟨fun q => hK _ _ _ _ _ _ (hs.1 q), fun q => ⟨(hs.2 q).1, hK _ _ _ _ _ _ (hs.2 q).2⟩⟩
    · exact hs.elim
  | tableswitch d lo hi offs =>
    simp only [ax_chk, Bool.and_eq_true, decide_eq_true_eq] at hc
    obtain ⟨⟨⟨⟨⟨⟨e0, e1⟩, e2⟩, e3⟩, e4⟩, e6⟩, e5⟩ := hc
    dsimp only [ax_step] at hs
    split at hs
    · rename_i x st
      have e1 : lo = ((ps.getD 1 0 : Nat) : Int) := e1
      have e2 : hi = ((ps.getD 1 0 : Nat) : Int) + (ps.length - 3 : Int) := e2
      have e3 : ps.length = offs.size + 2 := e3
      have e4 : 1 ≤ offs.size := Nat.le_of_ble_eq_true e4
      have e6 : ps.getD 1 0 + offs.size ≤ 100000 := Nat.le_of_ble_eq_true e6
      have e7 : (ps.drop 2).length = offs.size := by rw [List.length_drop]; omega
      by_cases hx : x.toInt < ((ps.getD 1 0 : Nat) : Int) ∨ ((ps.getD 1 0 : Nat) : Int) + (ps.length - 3 : Int) < x.toInt
      · refine ax_s_tabO hd (by omega) e0 (hK _ _ _ _ _ _ (ax_sw_out _ _ hs (fun j hj => ?_)))
        intro z
        have := nI_toInt (n := ps.getD 1 0 + j) (by omega)
        have hz : x.toInt = (nI (ps.getD 1 0 + j)).toInt := by rw [z]
        omega
      · have hk : (x.toInt - ((ps.getD 1 0 : Nat) : Int)).toNat < offs.size := by omega
        have h5 := List.all_eq_true.mp e5 _ (List.mem_range.mpr hk)
        rw [decide_eq_true_eq, Array.getElem?_eq_getElem hk, Option.map_some, Option.some.injEq] at h5
        have hxe : x = nI (ps.getD 1 0 + (x.toInt - ((ps.getD 1 0 : Nat) : Int)).toNat) := by
          apply Int32.toInt_inj.mp
          rw [nI_toInt (by omega)]
          omega
        have hg : (ps.drop 2)[(x.toInt - ((ps.getD 1 0 : Nat) : Int)).toNat]? = some (ps.getD (2 + (x.toInt - ((ps.getD 1 0 : Nat) : Int)).toNat) 0) := by
          rw [List.getElem?_drop]
          have key : ∀ n, n < ps.length → ps[n]? = some (ps.getD n 0) := fun n hn => by simp [List.getD, List.getElem?_eq_getElem hn]
          exact key _ (by omega)
        exact ax_s_tabI hd (by omega) (by omega) (by rw [e1]; exact Array.getElem?_eq_getElem hk) h5 (hK _ _ _ _ _ _ (ax_sw_in (x := x) (d := _) (k := _) _ _ hs _ hg hxe (by rw [e7]; show ps.getD 1 0 + offs.size < 2 ^ 31; omega)))
    · exact hs.elim
  | getfield n =>
    simp only [ax_chk, Bool.and_eq_true, decide_eq_true_eq] at hc
    obtain ⟨rfl, hc⟩ := hc
    split at hc
    · rename_i q hq
      obtain ⟨q1, q2, q3, q4, q5⟩ := q
      simp only [Bool.and_eq_true, decide_eq_true_eq] at hc
      obtain ⟨⟨⟨⟨rfl, rfl⟩, e3⟩, e4⟩, hc⟩ := hc
      have hw := ax_of_all ax_lf_ok ax_lfl hq
      dsimp only [ax_step] at hs
      split at hs
      · rename_i x st
        cases x with
        | none => exact hs.elim
        | some a =>
          obtain ⟨hKa, hs⟩ := hs
          rw [← e3] at hKa hc
          split at hc
          · rename_i h13
            simp only [Bool.and_eq_true, Bool.or_eq_true, decide_eq_true_eq] at hc
            obtain ⟨rfl, hc⟩ := hc
            have h13 : q3 = 13 := h13
            subst h13
            unfold ax_wf at hw
            rw [hcn] at hw
            have hw : Cond.fieldLink (ax_nm h).cls _ (ax_fn 13 q4).1 (ax_fn 13 q4).2.1 (ax_fn 13 q4).2.2 ∈ lw_tbl := hw
            rcases hc with ⟨c1, c2⟩ | ⟨c1, c2⟩
            · rw [c2, c1] at hs
              exact ax_s_getS hd (ax_gwf hw rfl) hKa (Or.inl ⟨by rw [e4, c1], rfl⟩) (hK _ _ _ _ _ _ hs)
            · rw [c2, c1] at hs
              exact ax_s_getS hd (ax_gwf hw rfl) hKa (Or.inr ⟨by rw [e4, c1], rfl⟩) (hK _ _ _ _ _ _ hs)
          · simp only [Bool.and_eq_true, decide_eq_true_eq] at hc
            obtain ⟨⟨c1, c2⟩, c3⟩ := hc
            have c1 : q3 < 13 := Nat.le_of_ble_eq_true c1
            rw [← e4] at c2 c3 hs
            have c2 : q4 < ax_nf q3 := Nat.le_of_ble_eq_true c2
            rw [c3] at hs
            rcases ax_cls_sort c1 c2 with ⟨-, t⟩ | ⟨-, t⟩ | ⟨-, t⟩ | ⟨-, t⟩ <;> rw [t] at hs <;> exact ax_s_get hd hw hcn c1 c2 hKa (by rw [t]; rfl) (hK _ _ _ _ _ _ hs)
      · exact hs.elim
    · cases hc
  | putfield n =>
    simp only [ax_chk, Bool.and_eq_true, decide_eq_true_eq] at hc
    obtain ⟨rfl, hc⟩ := hc
    split at hc
    · rename_i q hq
      obtain ⟨q1, q2, q3, q4, q5⟩ := q
      simp only [Bool.and_eq_true, decide_eq_true_eq] at hc
      obtain ⟨⟨⟨⟨⟨⟨⟨rfl, rfl⟩, e3⟩, e4⟩, c1⟩, c2⟩, c3⟩, c4⟩ := hc
      have hw := ax_of_all ax_lf_ok ax_lfl hq
      rw [← e3] at c1 c2 c3 c4
      rw [← e4] at c2 c3 c4
      have c1 : q3 < 13 := Nat.le_of_ble_eq_true c1
      have c2 : q4 < ax_nf q3 := Nat.le_of_ble_eq_true c2
      have c4 : (ax_Tb q3 q4).2.2.2 = true → q5 = 0 ∧ (ax_nm h).name = "<init>" ∧ ax_Cn q3 = (ax_nm h).cls := fun z => by
        rw [if_pos z] at c4
        simp only [Bool.and_eq_true, decide_eq_true_eq] at c4
        exact ⟨c4.1.1, c4.1.2, c4.2⟩
      dsimp only [ax_step] at hs
      split at hs
      · rename_i v1 x st
        cases x with
        | none => exact hs.elim
        | some a =>
          obtain ⟨⟨ha, hKa⟩, hs⟩ := hs
          rw [← e3] at hKa
          cases hb : Nat.beq (ax_p (Instr.putfield _, _, ps, v) 3) 0 with
          | false => rw [hb] at hs; exact hs.elim
          | true =>
            rw [hb] at hs
            have ht : ax_ft q3 q4 = 0 := by rw [← c3]; exact Nat.eq_of_beq_eq_true hb
            rw [← e4] at hs
            refine ax_s_put hd hw hcn c1 c2 c4 hKa ha ?_ ?_ (fun H H1 hH z oq hob => hH.putI ha (by rw [hKa]; exact c1) (by rw [hKa]; exact ht) z oq hob) (hK _ _ _ _ _ _ hs)
            · rcases ax_cls_sort c1 c2 with ⟨t1, t2⟩ | ⟨t1, t2⟩ | ⟨⟨t0, t1⟩, t2⟩ | ⟨⟨t0, t1⟩, t2⟩ <;> first | (exfalso; omega) | (rw [t1]; first | rfl | (rw [ax_cv_r]; cases ax_ao G v1 <;> rfl))
            · rcases ax_cls_sort c1 c2 with ⟨t1, t2⟩ | ⟨t1, t2⟩ | ⟨⟨t0, t1⟩, t2⟩ | ⟨⟨t0, t1⟩, t2⟩ <;> first | (exfalso; omega) | (rw [t1]; first | rfl | (rw [ax_cv_r]; cases ax_ao G v1 <;> rfl))
      · rename_i v1 x st
        cases x with
        | none => exact hs.elim
        | some a =>
          obtain ⟨⟨ha, hKa⟩, hs⟩ := hs
          rw [← e3] at hKa
          cases hb : Nat.beq (ax_p (Instr.putfield _, _, ps, v) 3) 1 with
          | false => rw [hb] at hs; exact hs.elim
          | true =>
            rw [hb] at hs
            have ht : ax_ft q3 q4 = 1 := by rw [← c3]; exact Nat.eq_of_beq_eq_true hb
            rw [← e4] at hs
            refine ax_s_put hd hw hcn c1 c2 c4 hKa ha ?_ ?_ (fun H H1 hH z oq hob => hH.putL ha (by rw [hKa]; exact c1) (by rw [hKa]; exact ht) z oq hob) (hK _ _ _ _ _ _ hs)
            · rcases ax_cls_sort c1 c2 with ⟨t1, t2⟩ | ⟨t1, t2⟩ | ⟨⟨t0, t1⟩, t2⟩ | ⟨⟨t0, t1⟩, t2⟩ <;> first | (exfalso; omega) | (rw [t1]; first | rfl | (rw [ax_cv_r]; cases ax_ao G v1 <;> rfl))
            · rcases ax_cls_sort c1 c2 with ⟨t1, t2⟩ | ⟨t1, t2⟩ | ⟨⟨t0, t1⟩, t2⟩ | ⟨⟨t0, t1⟩, t2⟩ <;> first | (exfalso; omega) | (rw [t1]; first | rfl | (rw [ax_cv_r]; cases ax_ao G v1 <;> rfl))
      · rename_i v1 x st
        cases x with
        | none => exact hs.elim
        | some a =>
          obtain ⟨⟨ha, hKa⟩, hs⟩ := hs
          rw [← e3] at hKa
          cases hb : Nat.beq (ax_p (Instr.putfield _, _, ps, v) 3) 2 with
          | false => rw [hb] at hs; exact hs.elim
          | true =>
            rw [hb] at hs
            have ht : ax_ft q3 q4 = 2 := by rw [← c3]; exact Nat.eq_of_beq_eq_true hb
            rw [← e4] at hs
            refine ax_s_put hd hw hcn c1 c2 c4 hKa ha ?_ ?_ (fun H H1 hH z oq hob => hH.putR ha (by rw [hKa]; exact c1) (by rw [hKa]; exact ht) z oq hob) (hK _ _ _ _ _ _ hs)
            · rcases ax_cls_sort c1 c2 with ⟨t1, t2⟩ | ⟨t1, t2⟩ | ⟨⟨t0, t1⟩, t2⟩ | ⟨⟨t0, t1⟩, t2⟩ <;> first | (exfalso; omega) | (rw [t1]; first | rfl | (rw [ax_cv_r]; cases ax_ao G v1 <;> rfl))
            · rcases ax_cls_sort c1 c2 with ⟨t1, t2⟩ | ⟨t1, t2⟩ | ⟨⟨t0, t1⟩, t2⟩ | ⟨⟨t0, t1⟩, t2⟩ <;> first | (exfalso; omega) | (rw [t1]; first | rfl | (rw [ax_cv_r]; cases ax_ao G v1 <;> rfl))
      · exact hs.elim
    · cases hc
  | iaload =>
    simp only [ax_chk, Bool.and_eq_true, decide_eq_true_eq] at hc
    subst hc
    dsimp only [ax_step] at hs
    split at hs
    · rename_i x st
      cases x with
      | none => exact hs.elim
      | some a => exact ax_s_iald hd hs.1.1 hs.1.2 (hK _ _ _ _ _ _ hs.2)
    · exact hs.elim
  | laload =>
    simp only [ax_chk, Bool.and_eq_true, decide_eq_true_eq] at hc
    subst hc
    dsimp only [ax_step] at hs
    split at hs
    · rename_i x st
      cases x with
      | none => exact hs.elim
      | some a => exact ax_s_lald hd hs.1.1 hs.1.2 (hK _ _ _ _ _ _ hs.2)
    · exact hs.elim
  | iastore =>
    simp only [ax_chk, Bool.and_eq_true, decide_eq_true_eq] at hc
    subst hc
    dsimp only [ax_step] at hs
    split at hs
    · rename_i x st
      cases x with
      | none => exact hs.elim
      | some a => exact ax_s_iast hd hs.1.1 hs.1.2.1 hs.1.2.2 (hK _ _ _ _ _ _ hs.2)
    · exact hs.elim
  | lastore =>
    simp only [ax_chk, Bool.and_eq_true, decide_eq_true_eq] at hc
    subst hc
    dsimp only [ax_step] at hs
    split at hs
    · rename_i x st
      cases x with
      | none => exact hs.elim
      | some a => exact ax_s_last hd hs.1.1 hs.1.2.1 hs.1.2.2 (hK _ _ _ _ _ _ hs.2)
    · exact hs.elim
  | arraylength =>
    simp only [ax_chk, Bool.and_eq_true, decide_eq_true_eq] at hc
    subst hc
    dsimp only [ax_step] at hs
    split at hs
    · rename_i x st
      cases x with
      | none => exact hs.elim
      | some a => exact ax_s_alen hd hs.1.1 hs.1.2 (hK _ _ _ _ _ _ hs.2)
    · exact hs.elim
  | baload =>
    simp only [ax_chk, Bool.and_eq_true, Bool.or_eq_true, decide_eq_true_eq] at hc
    obtain ⟨rfl, hc⟩ := hc
    dsimp only [ax_step] at hs
    split at hs
    · rename_i x st
      cases x with
      | none => exact hs.elim
      | some a => exact ax_s_bald hd (by rw [hs.1.1]; exact hc) hs.1.2 (hK _ _ _ _ _ _ hs.2)
    · exact hs.elim
  | bastore =>
    simp only [ax_chk, Bool.and_eq_true, Bool.or_eq_true, decide_eq_true_eq] at hc
    obtain ⟨rfl, hc⟩ := hc
    dsimp only [ax_step] at hs
    split at hs
    · rename_i x st
      cases x with
      | none => exact hs.elim
      | some a =>
        obtain ⟨⟨h1, h2, h3⟩, hs⟩ := hs
        rcases hc with hc | hc
        · rw [hc] at h2 hs
          exact ax_s_bast hd h1 h2 h3 (hK _ _ _ _ _ _ hs)
        · rw [hc] at h2 hs
          exact ax_s_zast hd h1 h2 h3 hs.1 (hK _ _ _ _ _ _ hs.2)
    · exact hs.elim
  | aaload =>
    simp only [ax_chk, Bool.and_eq_true, decide_eq_true_eq] at hc
    obtain ⟨⟨rfl, c1⟩, c2⟩ := hc
    dsimp only [ax_step] at hs
    split at hs
    · rename_i x st
      cases x with
      | none => exact hs.elim
      | some a => exact ax_s_aald hd (by rw [hs.1.1]; exact Nat.le_of_ble_eq_true c1) (by rw [hs.1.1]; exact Nat.le_of_ble_eq_true c2) hs.1.2 (hK _ _ _ _ _ _ hs.2)
    · exact hs.elim
  | aastore =>
    simp only [ax_chk, Bool.and_eq_true, decide_eq_true_eq] at hc
    obtain ⟨⟨⟨⟨rfl, c1⟩, c2⟩, c3⟩, c4⟩ := hc
    dsimp only [ax_step] at hs
    split at hs
    · rename_i b i x st
      cases x with
      | none => exact hs.elim
      | some a =>
        cases b with
        | none => exact hs.elim
        | some b =>
          obtain ⟨⟨h1, h2, h3, h4, h5⟩, hs⟩ := hs
          exact ax_s_aast hd h1 (by rw [h2]; exact Nat.le_of_ble_eq_true c1) (by rw [h2]; exact Nat.le_of_ble_eq_true c2) (Nat.le_of_ble_eq_true c3) (by rw [h2]; exact c4) h4 h5 h3 (hK _ _ _ _ _ _ hs)
    · exact hs.elim
  | new n =>
    simp only [ax_chk, Bool.and_eq_true, decide_eq_true_eq] at hc
    obtain ⟨rfl, hc⟩ := hc
    split at hc
    · rename_i q hq
      obtain ⟨q1, q2, q3⟩ := q
      simp only [Bool.and_eq_true, decide_eq_true_eq] at hc
      obtain ⟨⟨⟨rfl, rfl⟩, e3⟩, c1⟩ := hc
      have hw := ax_of_all ax_lc_ok ax_lcl hq
      dsimp only [ax_step] at hs
      rw [← e3] at c1 hs
      have c1 : q3 < 13 := Nat.le_of_ble_eq_true c1
      unfold ax_wc at hw
      simp only [hcn] at hw
      rw [if_neg (by omega)] at hw
      have hs := ax_gd.of hs
      exact ax_s_new hd (ax_gwf hw rfl) c1 hs.1.1 hs.1.2 (hK _ _ _ _ _ _ hs.2)
    · cases hc
  | newarray t =>
    simp only [ax_chk, Bool.and_eq_true, decide_eq_true_eq] at hc
    obtain ⟨⟨rfl, e1⟩, c1⟩ := hc
    dsimp only [ax_step] at hs
    split at hs
    · rw [← e1] at c1 hs
      obtain ⟨h1, hs⟩ := hs
      have hs := ax_gd.of hs
      exact ax_s_newa hd (Nat.le_of_ble_eq_true c1) h1.1 h1.2 hs.1.1 hs.1.2 (hK _ _ _ _ _ _ hs.2)
    · exact hs.elim
  | anewarray n =>
    simp only [ax_chk, Bool.and_eq_true, decide_eq_true_eq] at hc
    obtain ⟨rfl, hc⟩ := hc
    split at hc
    · rename_i q hq
      obtain ⟨q1, q2, q3⟩ := q
      simp only [Bool.and_eq_true, decide_eq_true_eq] at hc
      obtain ⟨⟨⟨⟨⟨rfl, rfl⟩, c1⟩, c2⟩, c3⟩, c4⟩ := hc
      have hw := ax_of_all ax_lc_ok ax_lcl hq
      have c1 : q3 < 13 := Nat.le_of_ble_eq_true c1
      dsimp only [ax_step] at hs
      unfold ax_wc at hw
      simp only [hcn] at hw
      rw [if_neg (by omega)] at hw
      split at hs
      · obtain ⟨h1, hs⟩ := hs
        have hs := ax_gd.of hs
        exact ax_s_anew hd (ax_gwf hw rfl) c1 (Nat.le_of_ble_eq_true c2) (Nat.le_of_ble_eq_true c3) c4 h1.1 h1.2 hs.1.1 hs.1.2 (hK _ _ _ _ _ _ hs.2)
      · exact hs.elim
    · cases hc
  | multianewarray n d =>
    exact absurd hc (by simp [ax_chk])
  | invokestatic n =>
    simp only [ax_chk, Bool.and_eq_true, decide_eq_true_eq] at hc
    obtain ⟨rfl, hc⟩ := hc
    split at hc
    · rename_i q hq
      obtain ⟨q1, q2, q3, q4⟩ := q
      simp only [Bool.and_eq_true, decide_eq_true_eq] at hc
      obtain ⟨⟨⟨rfl, rfl⟩, e3⟩, hc⟩ := hc
      have hw := ax_of_all ax_lm_ok ax_lml hq
      dsimp only [ax_step] at hs
      rw [← e3] at hs hc
      split at hc
      · rename_i h9
        simp only [Bool.and_eq_true, Bool.or_eq_true, decide_eq_true_eq] at hc
        obtain ⟨⟨⟨hc, rfl⟩, f1⟩, f2⟩ := hc
        have f1 := Nat.le_of_ble_eq_true f1
        have f2 := Nat.le_of_ble_eq_true f2
        rw [show Nat.ble 9990 q3 = true from Nat.ble_eq_true_of_le h9] at hs
        rcases hc with ((rfl | rfl) | rfl) | rfl
        · simp only [show Nat.beq 9990 9990 = true from rfl, cond_true, cond_false] at hs
          split at hs
          · rename_i st2
            cases hb : Nat.ble (ax_sum st2) 8 with
            | false => rw [hb] at hs; exact hs.elim
            | true => rw [hb] at hs; have hs := ax_gd.of hs; exact ax_s_abs hd hw hcn f1 f2 (Nat.le_of_ble_eq_true hb) hs.1.1 hs.1.2 (hK _ _ _ _ _ _ hs.2)
          · exact hs.elim
        · simp only [show Nat.beq 9991 9990 = false from rfl, show Nat.beq 9991 9993 = false from rfl, show Nat.beq 9991 9991 = true from rfl, cond_true, cond_false] at hs
          split at hs
          · rename_i st2
            cases hb : Nat.ble (ax_sum st2) 8 with
            | false => rw [hb] at hs; exact hs.elim
            | true => rw [hb] at hs; have hs := ax_gd.of hs; exact ax_s_max hd hw hcn f1 f2 (Nat.le_of_ble_eq_true hb) hs.1.1 hs.1.2 (hK _ _ _ _ _ _ hs.2)
          · exact hs.elim
        · simp only [show Nat.beq 9992 9990 = false from rfl, show Nat.beq 9992 9993 = false from rfl, show Nat.beq 9992 9991 = false from rfl, cond_true, cond_false] at hs
          split at hs
          · rename_i st2
            cases hb : Nat.ble (ax_sum st2) 8 with
            | false => rw [hb] at hs; exact hs.elim
            | true => rw [hb] at hs; have hs := ax_gd.of hs; exact ax_s_min hd hw hcn f1 f2 (Nat.le_of_ble_eq_true hb) hs.1.1 hs.1.2 (hK _ _ _ _ _ _ hs.2)
          · exact hs.elim
        · simp only [show Nat.beq 9993 9990 = false from rfl, show Nat.beq 9993 9993 = true from rfl, cond_true, cond_false] at hs
          split at hs
          · rename_i st2
            cases hb : Nat.ble (ax_sum st2) 8 with
            | false => rw [hb] at hs; exact hs.elim
            | true => rw [hb] at hs; have hs := ax_gd.of hs; exact ax_s_lmin hd hw hcn f1 f2 (Nat.le_of_ble_eq_true hb) hs.1.1 hs.1.2 (hK _ _ _ _ _ _ hs.2)
          · exact hs.elim
      · rename_i h9
        simp only [Bool.and_eq_true, decide_eq_true_eq] at hc
        obtain ⟨⟨c1, c2⟩, c3⟩ := hc
        have c1 : q3 < 249 := Nat.le_of_ble_eq_true c1
        have hbl : Nat.ble 9990 q3 = false := by cases hz : Nat.ble 9990 q3 with | false => rfl | true => exact absurd (Nat.le_of_ble_eq_true hz) h9
        rw [hbl] at hs
        simp only [cond_false] at hs
        split at hs
        · rename_i as st2 hpop
          cases hb : Nat.ble (ax_sum st2) 8 with
          | false => unfold ax_call at hs; rw [hb] at hs; exact hs.elim
          | true =>
            unfold ax_call at hs
            rw [hb] at hs
            obtain ⟨⟨k1, k2⟩, hs⟩ := ax_gd.of hs
            exact ax_s_calls hd hw hcn c1 c2 c3 hpop (Nat.le_of_ble_eq_true hb) k1 k2 hs (fun x μ1 hA => by
              obtain ⟨st3, g1, g2⟩ := ax_ansW hA G
              exact ⟨st3, g2, hK _ _ _ _ _ _ g1⟩)
        · exact hs.elim
    · cases hc
  | invokespecial n =>
    simp only [ax_chk, Bool.and_eq_true, decide_eq_true_eq] at hc
    obtain ⟨rfl, hc⟩ := hc
    split at hc
    · rename_i q hq
      obtain ⟨q1, q2, q3, q4⟩ := q
      simp only [Bool.and_eq_true, decide_eq_true_eq] at hc
      obtain ⟨⟨⟨rfl, rfl⟩, e3⟩, hc⟩ := hc
      have hw := ax_of_all ax_lm_ok ax_lml hq
      dsimp only [ax_step] at hs
      rw [← e3] at hs hc
      split at hc
      · rename_i h9
        have h9 : q3 = 9999 := h9
        subst h9
        simp only [Bool.and_eq_true, decide_eq_true_eq] at hc
        obtain ⟨⟨rfl, f1⟩, f2⟩ := hc
        simp only [show Nat.beq 9999 9999 = true from rfl, cond_true] at hs
        split at hs
        · rename_i a st2
          obtain ⟨ha, hs⟩ := hs
          cases hb : Nat.ble (ax_sum st2) 8 with
          | false => rw [hb] at hs; exact hs.elim
          | true => rw [hb] at hs; exact ax_s_obj hd hw hcn (Nat.le_of_ble_eq_true f1) (Nat.le_of_ble_eq_true f2) ha (Nat.le_of_ble_eq_true hb) (hK _ _ _ _ _ _ hs)
        · exact hs.elim
      · rename_i h9
        simp only [Bool.and_eq_true, decide_eq_true_eq] at hc
        obtain ⟨⟨c1, c2⟩, c3⟩ := hc
        have c1 : q3 < 249 := Nat.le_of_ble_eq_true c1
        have hbl : Nat.beq q3 9999 = false := by cases hz : Nat.beq q3 9999 with | false => rfl | true => exact absurd (Nat.eq_of_beq_eq_true hz) h9
        rw [hbl] at hs
        simp only [cond_false] at hs
        split at hs
        · rename_i as a st2 hpop
          obtain ⟨ha, hs⟩ := hs
          cases hb : Nat.ble (ax_sum st2) 8 with
          | false => unfold ax_call at hs; rw [hb] at hs; exact hs.elim
          | true =>
            unfold ax_call at hs
            rw [hb] at hs
            obtain ⟨⟨k1, k2⟩, hs⟩ := ax_gd.of hs
            exact ax_s_calli hd hw hcn c1 c2 c3 hpop ha (Nat.le_of_ble_eq_true hb) k1 k2 hs (fun x μ1 hA => by
              obtain ⟨st3, g1, g2⟩ := ax_ansW hA G
              exact ⟨st3, g2, hK _ _ _ _ _ _ g1⟩)
        · exact hs.elim
    · cases hc
  | invokevirtual n =>
    simp only [ax_chk, Bool.and_eq_true, decide_eq_true_eq] at hc
    obtain ⟨rfl, hc⟩ := hc
    split at hc
    · rename_i q hq
      obtain ⟨q1, q2, q3, q4⟩ := q
      simp only [Bool.and_eq_true, decide_eq_true_eq] at hc
      obtain ⟨⟨⟨⟨⟨⟨rfl, rfl⟩, e3⟩, c1⟩, c2⟩, c3⟩, hc⟩ := hc
      have hw := ax_of_all ax_lm_ok ax_lml hq
      dsimp only [ax_step] at hs
      rw [← e3] at hs hc c1 c2 c3
      have c1 : q3 < 249 := Nat.le_of_ble_eq_true c1
      split at hs
      · rename_i as x st2 hpop
        cases x with
        | none => exact hs.elim
        | some a =>
          obtain ⟨hKa, hs⟩ := hs
          cases hb : Nat.ble (ax_sum st2) 8 with
          | false => unfold ax_call at hs; rw [hb] at hs; exact hs.elim
          | true =>
            unfold ax_call at hs
            rw [hb] at hs
            obtain ⟨⟨k1, k2⟩, hs⟩ := ax_gd.of hs
            refine ax_s_callv hd hw hcn c1 c2 c3 hpop hKa ?_ (Nat.le_of_ble_eq_true hb) k1 k2 hs (fun x μ1 hA => by
              obtain ⟨st3, g1, g2⟩ := ax_ansW hA G
              exact ⟨st3, g2, hK _ _ _ _ _ _ g1⟩)
            split at hc
            · rename_i h13
              simp only [Bool.and_eq_true, decide_eq_true_eq] at hc
              exact Or.inr ⟨h13, hc.1⟩
            · simp only [Bool.and_eq_true, decide_eq_true_eq] at hc
              exact Or.inl ⟨Nat.le_of_ble_eq_true hc.1, hc.2⟩
      · exact hs.elim
    · cases hc
  | ireturn =>
    simp only [ax_chk, Bool.and_eq_true, decide_eq_true_eq] at hc
    subst hc
    dsimp only [ax_step] at hs
    split at hs
    · obtain ⟨⟨k1, k2⟩, hs⟩ := ax_gd.of hs
      split at hs
      · rename_i ht
        rcases hE with rfl | hE
        · exact ax_s_iret hd ht (by rcases hs.1 with rfl | rfl <;> rfl) k1 k2 hs.2
        · exact absurd hs.2 (hE _ _)
      · rename_i ht
        rcases hE with rfl | hE
        · refine ax_s_iret hd ht ?_ k1 k2 hs.2
          obtain ⟨j, hj, e⟩ := nI_of2 (n := 65535) (by decide) hs.1.1 hs.1.2
          rw [e]
          exact (pk_charN (by omega)).1
        · exact absurd hs.2 (hE _ _)
      · rename_i ht
        rcases hE with rfl | hE
        · refine ax_s_iret hd ht ?_ k1 k2 hs.2
          obtain ⟨e, -⟩ := hs
          rw [← e]
          exact pk_nb _
        · exact absurd hs.2 (hE _ _)
      · rename_i ht
        rcases hE with rfl | hE
        · exact ax_s_iret hd ht rfl k1 k2 hs
        · exact absurd hs (hE _ _)
      · exact hs.elim
    · exact hs.elim
  | lreturn =>
    simp only [ax_chk, Bool.and_eq_true, decide_eq_true_eq] at hc
    obtain ⟨rfl, hrt⟩ := hc
    dsimp only [ax_step] at hs
    split at hs
    · obtain ⟨⟨k1, k2⟩, hs⟩ := ax_gd.of hs
      rcases hE with rfl | hE
      · exact ax_s_lret hd hrt k1 k2 hs
      · exact absurd hs (hE _ _)
    · exact hs.elim
  | return_ =>
    simp only [ax_chk, Bool.and_eq_true, decide_eq_true_eq] at hc
    obtain ⟨rfl, hrt⟩ := hc
    dsimp only [ax_step] at hs
    split at hs
    · obtain ⟨⟨k1, k2⟩, hs⟩ := ax_gd.of hs
      rcases hE with rfl | hE
      · exact ax_s_vret hd hrt k1 k2 hs
      · exact absurd hs (hE _ _)
    · exact hs.elim
  | _ => exact hs.elim
