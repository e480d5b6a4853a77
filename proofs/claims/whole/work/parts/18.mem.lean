theorem ax_ad_ge {G : ax_G} {a : Nat} (h : 64 ≤ a) : ax_ad G a = ax_B G + (a - 64) := by
  unfold ax_ad
  rw [if_neg (by omega)]
theorem ax_ad_lt {G : ax_G} {a : Nat} (h : a < 64) : ax_ad G a = ax_C G a := by
  unfold ax_ad
  rw [if_pos h]
theorem ax_ao_some {G : ax_G} {a : Nat} (h : a ≠ 6) : ax_ao G (some a) = some (ax_ad G a) := by
  show (if a = 6 then ax_F G else some (ax_ad G a)) = _
  rw [if_neg h]
theorem ax_cv_some {G : ax_G} {a : Nat} (h : a ≠ 6) : ax_cv G (ax_r (some a)) = .ref (ax_ad G a) := by
  rw [ax_cv_r, ax_ao_some h]
  rfl
section Mem
variable {G : ax_G} {μ : ax_M} {H : Heap}
theorem ax_Hd.lt (h : ax_Hd G μ H) {a : Nat} (ha : mK μ a ≠ 99) : a < mN μ := by
  rcases Nat.lt_or_ge a (mN μ) with q | q
  · exact q
  · exact absurd (h.2.2.2.1 a q) ha
theorem ax_Hd.k0 (h : ax_Hd G μ H) {a : Nat} (ha : a < 64) : mK μ a = mK (ax_0 G) a ∧ mZ μ a = mZ (ax_0 G) a := by
  have := (h.2.2.2.2.2 a ha).1
  unfold mK mZ
  rw [this]
  exact ⟨rfl, rfl⟩
theorem ax_Hd.n6 {s : State} (h : ax_Hd G μ H) (hK : ax_KK G s) {a : Nat} (ha : mK μ a ≠ 99) : a ≠ 6 := by
  intro e
  subst e
  exact ha ((h.k0 (by omega)).1.trans hK.2.2.2.2.2.2.2.2)
/-- one cell is written: the kinds, the lengths and the other cells stay -/
theorem ax_Hd.set (h : ax_Hd G μ H) {a : Nat} (ha : 64 ≤ a) {μ' : ax_M} {H1 : Heap} (hn : μ'.1 = μ.1) (hk : μ'.2.1 = μ.2.1) (hI : ∀ b j, b ≠ a → gI μ' b j = gI μ b j) (hL : ∀ b j, b ≠ a → gL μ' b j = gL μ b j) (hR : ∀ b j, b ≠ a → gR μ' b j = gR μ b j)
    (z : H1.size = H.size) (oq : ∀ q : Nat, q ≠ ax_ad G a → H1[q]? = H[q]?) (hat : ax_at G μ' a H1) : ax_Hd G μ' H1 := by
  obtain ⟨h1, h2, h3, h4, h5, h6⟩ := h
  have eN : mN μ' = mN μ := hn
  have eK : ∀ b, mK μ' b = mK μ b := fun b => by unfold mK; rw [hk]
  have eZ : ∀ b, mZ μ' b = mZ μ b := fun b => by unfold mZ; rw [hk]
  refine ⟨by rw [eN]; exact h1, by rw [eN, z]; exact h2, fun q hq => (oq q (by rw [ax_ad_ge ha]; omega)).trans (h3 q hq), fun b hb => (eK b).trans (h4 b (by rw [← eN]; exact hb)), fun b hb => ?_, fun b hb => ?_⟩
  · by_cases e : b = a
    · subst e; exact hat
    · have hne : ax_ad G b ≠ ax_ad G a := by rw [ax_ad_ge ha, ax_ad_ge hb]; omega
      have ho := oq _ hne
      obtain ⟨g1, g2, g13⟩ := h5 b hb
      refine ⟨fun q => ?_, fun q1 q2 => ?_, by rw [eK]; exact g13⟩
      · rw [eK] at q ⊢
        refine ((g1 q).kept ho).to (fun j _ => ?_)
        unfold ax_fv
        rw [hI b j e, hL b j e, hR b j e]
      · rw [eK] at q1 q2
        rw [ho, g2 q1 q2, eK, eZ]
        congr 2
        funext j
        unfold ax_av
        rw [hI b j e, hL b j e, hR b j e]
  · have hne : b ≠ a := by omega
    obtain ⟨g1, g2, g3, g4⟩ := h6 b hb
    exact ⟨by rw [hk]; exact g1, fun j => (hI b j hne).trans (g2 j), fun j => (hL b j hne).trans (g3 j), fun j => (hR b j hne).trans (g4 j)⟩
theorem ax_gI_sI (μ : ax_M) (a k : Nat) (v : Int32) (b j : Nat) : gI (sI μ a k v) b j = if b = a ∧ j = k then v else gI μ b j := rfl
theorem ax_gL_sL (μ : ax_M) (a k : Nat) (v : Int64) (b j : Nat) : gL (sL μ a k v) b j = if b = a ∧ j = k then v else gL μ b j := rfl
theorem ax_gR_sR (μ : ax_M) (a k : Nat) (v : Option Nat) (b j : Nat) : gR (sR μ a k v) b j = if b = a ∧ j = k then v else gR μ b j := rfl
/-- a field is written -/
theorem ax_Hd.putI (h : ax_Hd G μ H) {a k : Nat} {v : Int32} (ha : 64 ≤ a) (hK : mK μ a < 13) (hs : ax_ft (mK μ a) k = 0) {H1 : Heap} (z : H1.size = H.size) (oq : ∀ q : Nat, q ≠ ax_ad G a → H1[q]? = H[q]?) (hc : t_OB (ax_ad G a) ((ax_D G).1 (mK μ a)) (ax_nf (mK μ a)) ((ax_D G).2 (mK μ a)) H1 (updV (fun j => ax_fv G μ a j (ax_ft (mK μ a) j)) k (.int v))) : ax_Hd G (sI μ a k v) H1 := by
  refine h.set ha rfl rfl (fun b j e => by rw [ax_gI_sI, if_neg (fun q => e q.1)]) (fun _ _ _ => rfl) (fun _ _ _ => rfl) z oq ⟨fun _ => hc.to (fun j _ => ?_), fun q => ?_, fun q => ?_⟩
  · show updV _ k (.int v) j = ax_fv G (sI μ a k v) a j (ax_ft (mK μ a) j)
    by_cases e : j = k
    · subst e
      rw [hs]
      show (if j = j then Value.int v else _) = Value.int (gI (sI μ a j v) a j)
      rw [if_pos rfl, ax_gI_sI, if_pos ⟨rfl, rfl⟩]
    · show (if j = k then Value.int v else _) = _
      rw [if_neg e]
      unfold ax_fv
      rw [ax_gI_sI, if_neg (fun q => e q.2)]
      rfl
  · have : mK (sI μ a k v) a = mK μ a := rfl
    omega
  · have : mK (sI μ a k v) a = mK μ a := rfl
    omega
theorem ax_Hd.putL (h : ax_Hd G μ H) {a k : Nat} {v : Int64} (ha : 64 ≤ a) (hK : mK μ a < 13) (hs : ax_ft (mK μ a) k = 1) {H1 : Heap} (z : H1.size = H.size) (oq : ∀ q : Nat, q ≠ ax_ad G a → H1[q]? = H[q]?) (hc : t_OB (ax_ad G a) ((ax_D G).1 (mK μ a)) (ax_nf (mK μ a)) ((ax_D G).2 (mK μ a)) H1 (updV (fun j => ax_fv G μ a j (ax_ft (mK μ a) j)) k (.long v))) : ax_Hd G (sL μ a k v) H1 := by
  refine h.set ha rfl rfl (fun _ _ _ => rfl) (fun b j e => by rw [ax_gL_sL, if_neg (fun q => e q.1)]) (fun _ _ _ => rfl) z oq ⟨fun _ => hc.to (fun j _ => ?_), fun q => ?_, fun q => ?_⟩
  · show updV _ k (.long v) j = ax_fv G (sL μ a k v) a j (ax_ft (mK μ a) j)
    by_cases e : j = k
    · subst e
      rw [hs]
      show (if j = j then Value.long v else _) = Value.long (gL (sL μ a j v) a j)
      rw [if_pos rfl, ax_gL_sL, if_pos ⟨rfl, rfl⟩]
    · show (if j = k then Value.long v else _) = _
      rw [if_neg e]
      unfold ax_fv
      rw [ax_gL_sL, if_neg (fun q => e q.2)]
      rfl
  · have : mK (sL μ a k v) a = mK μ a := rfl
    omega
  · have : mK (sL μ a k v) a = mK μ a := rfl
    omega
theorem ax_Hd.putR (h : ax_Hd G μ H) {a k : Nat} {v : Option Nat} (ha : 64 ≤ a) (hK : mK μ a < 13) (hs : ax_ft (mK μ a) k = 2) {H1 : Heap} (z : H1.size = H.size) (oq : ∀ q : Nat, q ≠ ax_ad G a → H1[q]? = H[q]?) (hc : t_OB (ax_ad G a) ((ax_D G).1 (mK μ a)) (ax_nf (mK μ a)) ((ax_D G).2 (mK μ a)) H1 (updV (fun j => ax_fv G μ a j (ax_ft (mK μ a) j)) k (va_rf (ax_ao G v)))) : ax_Hd G (sR μ a k v) H1 := by
  refine h.set ha rfl rfl (fun _ _ _ => rfl) (fun _ _ _ => rfl) (fun b j e => by rw [ax_gR_sR, if_neg (fun q => e q.1)]) z oq ⟨fun _ => hc.to (fun j _ => ?_), fun q => ?_, fun q => ?_⟩
  · show updV _ k (va_rf (ax_ao G v)) j = ax_fv G (sR μ a k v) a j (ax_ft (mK μ a) j)
    by_cases e : j = k
    · subst e
      rw [hs]
      show (if j = j then va_rf (ax_ao G v) else _) = va_rf (ax_ao G (gR (sR μ a j v) a j))
      rw [if_pos rfl, ax_gR_sR, if_pos ⟨rfl, rfl⟩]
    · show (if j = k then va_rf (ax_ao G v) else _) = _
      rw [if_neg e]
      unfold ax_fv
      rw [ax_gR_sR, if_neg (fun q => e q.2)]
      rfl
  · have : mK (sR μ a k v) a = mK μ a := rfl
    omega
  · have : mK (sR μ a k v) a = mK μ a := rfl
    omega
/-- a place of an array is written -/
theorem ax_Hd.stI (h : ax_Hd G μ H) {a k : Nat} {v : Int32} (ha : 64 ≤ a) (hK : mK μ a = 20 ∨ mK μ a = 21 ∨ mK μ a = 23) {H1 : Heap} (z : H1.size = H.size) (oq : ∀ q : Nat, q ≠ ax_ad G a → H1[q]? = H[q]?) (hc : H1[ax_ad G a]? = some ((arrV (ax_Y G (mK μ a)) (mZ μ a) (fun j => ax_av G μ (mK μ a) a j)).setSlot k (.int v))) : ax_Hd G (sI μ a k v) H1 := by
  refine h.set ha rfl rfl (fun b j e => by rw [ax_gI_sI, if_neg (fun q => e q.1)]) (fun _ _ _ => rfl) (fun _ _ _ => rfl) z oq ⟨fun q => ?_, fun _ _ => ?_, fun q => ?_⟩
  · have : mK (sI μ a k v) a = mK μ a := rfl
    omega
  · rw [hc, arrV_store]
    show some (arrV (ax_Y G (mK μ a)) (mZ μ a) _) = some (arrV (ax_Y G (mK μ a)) (mZ μ a) _)
    congr 2
    funext j
    show (if j = k then Value.int v else ax_av G μ (mK μ a) a j) = ax_av G (sI μ a k v) (mK μ a) a j
    unfold ax_av
    rw [if_neg (show ¬ mK μ a = 22 by omega), if_pos (show mK μ a < 24 by omega), if_neg (show ¬ mK μ a = 22 by omega), if_pos (show mK μ a < 24 by omega), ax_gI_sI]
    by_cases e : j = k
    · subst e; rw [if_pos rfl, if_pos ⟨rfl, rfl⟩]
    · rw [if_neg e, if_neg (fun q => e q.2)]
  · have : mK (sI μ a k v) a = mK μ a := rfl
    omega
theorem ax_Hd.stL (h : ax_Hd G μ H) {a k : Nat} {v : Int64} (ha : 64 ≤ a) (hK : mK μ a = 22) {H1 : Heap} (z : H1.size = H.size) (oq : ∀ q : Nat, q ≠ ax_ad G a → H1[q]? = H[q]?) (hc : H1[ax_ad G a]? = some ((arrV (ax_Y G (mK μ a)) (mZ μ a) (fun j => ax_av G μ (mK μ a) a j)).setSlot k (.long v))) : ax_Hd G (sL μ a k v) H1 := by
  refine h.set ha rfl rfl (fun _ _ _ => rfl) (fun b j e => by rw [ax_gL_sL, if_neg (fun q => e q.1)]) (fun _ _ _ => rfl) z oq ⟨fun q => ?_, fun _ _ => ?_, fun q => ?_⟩
  · have : mK (sL μ a k v) a = mK μ a := rfl
    omega
  · rw [hc, arrV_store]
    show some (arrV (ax_Y G (mK μ a)) (mZ μ a) _) = some (arrV (ax_Y G (mK μ a)) (mZ μ a) _)
    congr 2
    funext j
    show (if j = k then Value.long v else ax_av G μ (mK μ a) a j) = ax_av G (sL μ a k v) (mK μ a) a j
    unfold ax_av
    rw [if_pos hK, if_pos hK, ax_gL_sL]
    by_cases e : j = k
    · subst e; rw [if_pos rfl, if_pos ⟨rfl, rfl⟩]
    · rw [if_neg e, if_neg (fun q => e q.2)]
  · have : mK (sL μ a k v) a = mK μ a := rfl
    omega
theorem ax_Hd.stR (h : ax_Hd G μ H) {a k : Nat} {v : Option Nat} (ha : 64 ≤ a) (hK : 24 ≤ mK μ a) (hK2 : mK μ a ≤ 28) {H1 : Heap} (z : H1.size = H.size) (oq : ∀ q : Nat, q ≠ ax_ad G a → H1[q]? = H[q]?) (hc : H1[ax_ad G a]? = some ((arrV (ax_Y G (mK μ a)) (mZ μ a) (fun j => ax_av G μ (mK μ a) a j)).setSlot k (va_rf (ax_ao G v)))) : ax_Hd G (sR μ a k v) H1 := by
  refine h.set ha rfl rfl (fun _ _ _ => rfl) (fun _ _ _ => rfl) (fun b j e => by rw [ax_gR_sR, if_neg (fun q => e q.1)]) z oq ⟨fun q => ?_, fun _ _ => ?_, fun q => ?_⟩
  · have : mK (sR μ a k v) a = mK μ a := rfl
    omega
  · rw [hc, arrV_store]
    show some (arrV (ax_Y G (mK μ a)) (mZ μ a) _) = some (arrV (ax_Y G (mK μ a)) (mZ μ a) _)
    congr 2
    funext j
    show (if j = k then va_rf (ax_ao G v) else ax_av G μ (mK μ a) a j) = ax_av G (sR μ a k v) (mK μ a) a j
    unfold ax_av
    rw [if_neg (show ¬ mK μ a = 22 by omega), if_neg (show ¬ mK μ a < 24 by omega), if_neg (show ¬ mK μ a = 22 by omega), if_neg (show ¬ mK μ a < 24 by omega), ax_gR_sR]
    by_cases e : j = k
    · subst e; rw [if_pos rfl, if_pos ⟨rfl, rfl⟩]
    · rw [if_neg e, if_neg (fun q => e q.2)]
  · have : mK (sR μ a k v) a = mK μ a := rfl
    omega
/-- a new cell -/
theorem ax_Hd.new (h : ax_Hd G μ H) (k z : Nat) {H1 : Heap} (hz : H1.size = H.size + 1) (oq : ∀ q : Nat, q < H.size → H1[q]? = H[q]?) (hat : ax_at G (nC μ k z) (mN μ) H1) : ax_Hd G (nC μ k z) H1 ∧ ax_ad G (mN μ) = H.size := by
  obtain ⟨h1, h2, h3, h4, h5, h6⟩ := h
  have ead : ax_ad G (mN μ) = H.size := by rw [ax_ad_ge h1, h2]
  have eN : mN (nC μ k z) = mN μ + 1 := rfl
  have eK : ∀ b, b ≠ mN μ → mK (nC μ k z) b = mK μ b := fun b hb => by
    show (if b = μ.1 then (k, z) else μ.2.1 b).1 = _
    rw [if_neg (show ¬ b = μ.1 from hb)]; rfl
  have eZ : ∀ b, b ≠ mN μ → mZ (nC μ k z) b = mZ μ b := fun b hb => by
    show (if b = μ.1 then (k, z) else μ.2.1 b).2 = _
    rw [if_neg (show ¬ b = μ.1 from hb)]; rfl
  have eI : ∀ b j, b ≠ mN μ → gI (nC μ k z) b j = gI μ b j := fun b j hb => by
    show (if b = μ.1 then 0 else μ.2.2.1 b j) = _
    rw [if_neg (show ¬ b = μ.1 from hb)]; rfl
  have eL : ∀ b j, b ≠ mN μ → gL (nC μ k z) b j = gL μ b j := fun b j hb => by
    show (if b = μ.1 then 0 else μ.2.2.2.1 b j) = _
    rw [if_neg (show ¬ b = μ.1 from hb)]; rfl
  have eR : ∀ b j, b ≠ mN μ → gR (nC μ k z) b j = gR μ b j := fun b j hb => by
    show (if b = μ.1 then none else μ.2.2.2.2 b j) = _
    rw [if_neg (show ¬ b = μ.1 from hb)]; rfl
  refine ⟨⟨by rw [eN]; omega, by rw [eN, hz, h2]; omega, fun q hq => (oq q (by omega)).trans (h3 q hq), fun b hb => ?_, fun b hb => ?_, fun b hb => ?_⟩, ead⟩
  · rw [eK b (by omega)]
    exact h4 b (by omega)
  · by_cases e : b = mN μ
    · subst e; exact hat
    · by_cases hlt : b < mN μ
      · have ho := oq (ax_ad G b) (by rw [ax_ad_ge hb, h2]; omega)
        obtain ⟨g1, g2, g13⟩ := h5 b hb
        refine ⟨fun q => ?_, fun q1 q2 => ?_, by rw [eK b e]; exact g13⟩
        · rw [eK b e] at q ⊢
          refine ((g1 q).kept ho).to (fun j _ => ?_)
          unfold ax_fv
          rw [eI b j e, eL b j e, eR b j e]
        · rw [eK b e] at q1 q2
          rw [ho, g2 q1 q2, eK b e, eZ b e]
          congr 2
          funext j
          unfold ax_av
          rw [eI b j e, eL b j e, eR b j e]
      · have hk := h4 b (by omega)
        exact ⟨fun q => by rw [eK b e] at q; omega, fun q1 q2 => by rw [eK b e] at q1 q2; omega, by rw [eK b e]; omega⟩
  · have hne : b ≠ mN μ := by omega
    obtain ⟨g1, g2, g3, g4⟩ := h6 b hb
    refine ⟨?_, fun j => (eI b j hne).trans (g2 j), fun j => (eL b j hne).trans (g3 j), fun j => (eR b j hne).trans (g4 j)⟩
    show (if b = μ.1 then (k, z) else μ.2.1 b) = _
    rw [if_neg (show ¬ b = μ.1 from hne)]
    exact g1
end Mem
