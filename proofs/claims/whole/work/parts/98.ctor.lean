/-! the constructors: a grid is made; the land -/
def ax_dq (h : ax_H) (pc : Nat) (E : Instr × Nat) : Bool := match decode (ax_by h) pc with
  | .ok q => decide (q = E)
  | _ => false
theorem ax_dq_of {h : ax_H} {pc : Nat} {E : Instr × Nat} (k : ax_dq h pc E = true) : decode (ax_by h) pc = .ok E := by
  unfold ax_dq at k
  split at k
  · rename_i q hq
    rw [hq, of_decide_eq_true k]
  · cases k
theorem ax_aoi : Cond.arrayOver (.array .int) ∈ lw_tbl := by decide +kernel
theorem gGK (μ : ax_M) (n z b : Nat) : mK (nG μ n z) b = if b = mN μ then 28 else if mN μ < b ∧ b < mN μ + 1 + n then 21 else mK μ b := by
  show (if b = μ.1 then (28, n) else if μ.1 < b ∧ b < μ.1 + 1 + n then (21, z) else μ.2.1 b).1 = _
  unfold mN mK
  split
  · rfl
  · split <;> rfl
theorem gGZ (μ : ax_M) (n z b : Nat) : mZ (nG μ n z) b = if b = mN μ then n else if mN μ < b ∧ b < mN μ + 1 + n then z else mZ μ b := by
  show (if b = μ.1 then (28, n) else if μ.1 < b ∧ b < μ.1 + 1 + n then (21, z) else μ.2.1 b).2 = _
  unfold mN mZ
  split
  · rfl
  · split <;> rfl
theorem gGI (μ : ax_M) (n z b j : Nat) : gI (nG μ n z) b j = if mN μ ≤ b ∧ b < mN μ + 1 + n then 0 else gI μ b j := rfl
theorem gGL (μ : ax_M) (n z b j : Nat) : gL (nG μ n z) b j = if mN μ ≤ b ∧ b < mN μ + 1 + n then 0 else gL μ b j := rfl
theorem gGR (μ : ax_M) (n z b j : Nat) : gR (nG μ n z) b j = if b = mN μ then (if j < n then some (mN μ + 1 + j) else none) else if mN μ < b ∧ b < mN μ + 1 + n then none else gR μ b j := rfl
theorem gGN (μ : ax_M) (n z : Nat) : mN (nG μ n z) = mN μ + 1 + n := rfl
theorem Ag.grid (μ : ax_M) (n z : Nat) : Ag (mN μ) μ (nG μ n z) := fun b hb => ⟨by
  show (if b = mN μ then _ else if mN μ < b ∧ b < mN μ + 1 + n then _ else μ.2.1 b) = _
  rw [if_neg (by omega), if_neg (by omega)], fun j => ⟨by rw [gGI, if_neg (by omega)], by rw [gGL, if_neg (by omega)], by rw [gGR, if_neg (by omega), if_neg (by omega)]⟩⟩
theorem ax_Hd.grid {G : ax_G} {μ : ax_M} {H : Heap} (h : ax_Hd G μ H) (n z : Nat) {H1 : Heap} (hz : H1.size = H.size + 1 + n) (oq : ∀ q : Nat, q < H.size → H1[q]? = H[q]?) (ho : H1[H.size]? = some (arrV (ax_Y G 28) n (fun j => va_rf (if j < n then some (H.size + 1 + j) else none)))) (hr : ∀ j : Nat, j < n → H1[H.size + 1 + j]? = some (arrV (ax_Y G 21) z (fun _ => .int 0))) : ax_Hd G (nG μ n z) H1 := by
  obtain ⟨h1, h2, h3, h4, h5, h6⟩ := h
  have ead : ax_ad G (mN μ) = H.size := by rw [ax_ad_ge h1, h2]
  refine ⟨by rw [gGN]; omega, by rw [gGN, hz, h2]; omega, fun q hq => (oq q (by omega)).trans (h3 q hq), fun b hb => ?_, fun b hb => ?_, fun b hb => ?_⟩
  · rw [gGN] at hb
    rw [gGK, if_neg (by omega), if_neg (by omega)]
    exact h4 b (by omega)
  · by_cases e : b = mN μ
    · subst e
      have k1 : mK (nG μ n z) (mN μ) = 28 := by rw [gGK, if_pos rfl]
      refine ⟨fun q => by rw [k1] at q; omega, fun _ _ => ?_, by rw [k1]; omega⟩
      rw [k1, gGZ, if_pos rfl, ead, ho]
      congr 2
      funext j
      show va_rf (if j < n then some (H.size + 1 + j) else none) = va_rf (ax_ao G (gR (nG μ n z) (mN μ) j))
      rw [gGR, if_pos rfl]
      by_cases hj : j < n
      · rw [if_pos hj, if_pos hj]
        unfold ax_ao
        show va_rf _ = va_rf (if mN μ + 1 + j = 6 then _ else some (ax_ad G (mN μ + 1 + j)))
        rw [if_neg (by omega), ax_ad_ge (by omega), h2]
        congr 2
        omega
      · rw [if_neg hj, if_neg hj]
        rfl
    · by_cases e2 : mN μ < b ∧ b < mN μ + 1 + n
      · have k1 : mK (nG μ n z) b = 21 := by rw [gGK, if_neg e, if_pos e2]
        have r := hr (b - (mN μ + 1)) (by omega)
        have ea : ax_ad G b = H.size + 1 + (b - (mN μ + 1)) := by rw [ax_ad_ge hb, h2]; omega
        refine ⟨fun q => by rw [k1] at q; omega, fun _ _ => ?_, by rw [k1]; omega⟩
        rw [k1, gGZ, if_neg e, if_pos e2, ea, r]
        congr 2
        funext j
        unfold ax_av
        rw [if_neg (by omega), if_pos (by omega), gGI, if_pos (by omega)]
      · have k1 : mK (nG μ n z) b = mK μ b := by rw [gGK, if_neg e, if_neg e2]
        by_cases hlt : b < mN μ
        · have hq := oq (ax_ad G b) (by rw [ax_ad_ge hb, h2]; omega)
          obtain ⟨g1, g2, g13⟩ := h5 b hb
          have a := (Ag.grid μ n z) b hlt
          refine ⟨fun q => ?_, fun q1 q2 => ?_, by rw [k1]; exact g13⟩
          · rw [k1] at q ⊢
            refine ((g1 q).kept hq).to (fun j _ => ?_)
            unfold ax_fv
            rw [(a.2 j).1, (a.2 j).2.1, (a.2 j).2.2]
          · rw [k1] at q1 q2
            rw [hq, g2 q1 q2, k1, gGZ, if_neg e, if_neg e2]
            congr 2
            funext j
            unfold ax_av
            rw [(a.2 j).1, (a.2 j).2.1, (a.2 j).2.2]
        · have hk := h4 b (by omega)
          exact ⟨fun q => by rw [k1] at q; omega, fun q1 q2 => by rw [k1] at q1 q2; omega, by rw [k1]; omega⟩
  · have a := (Ag.grid μ n z) b (by omega)
    obtain ⟨g1, g2, g3, g4⟩ := h6 b hb
    exact ⟨a.1.trans g1, fun j => (a.2 j).1.trans (g2 j), fun j => (a.2 j).2.1.trans (g3 j), fun j => (a.2 j).2.2.trans (g4 j)⟩
theorem ax_s_multi {l : Launch} {G : ax_G} {h : ax_H} {EE : Program → Env → State → MethodId → Array Value → List Frame → Method → Code → State → Prop} {pc : Nat} {lv : ax_L} {st : List ax_V} {cl sl : Nat} {μ : ax_M} {i : Nat} {n k : Int32} {N K : Nat} (hd : ax_dq h pc (.multianewarray i 2, 4) = true) (hw : Cond.classLink (ax_nm h).cls i "[[I" ∈ ax_gw) (hn : ¬ n < 0) (hk : ¬ k < 0) (eN : n.toNatClampNeg = N) (eK : k.toNatClampNeg = K) (hN : N ≤ 1000) (hK : K ≤ 1000) (hc : cl + (1 + N) ≤ ax_mc h) (hs : sl + (N + N * K) ≤ ax_ms h) (kk : ax_Rw l G h EE (pc + 4) lv (ax_r (some (mN μ)) :: st) (cl + 1 + N) (sl + N + N * K) (nG μ N K)) : ax_Rw l G h EE pc lv (ax_i k :: ax_i n :: st) cl sl μ := by
  subst eN
  subst eK
  intro p e s m args below meth c hx H locs ls hH hl hq
  obtain ⟨hexec, hb, hr, hlocks, hml, hown, hname, hts, hKK⟩ := id hx
  have h64 := hH.1
  have ead : ax_ad G (mN μ) = H.size := by rw [ax_ad_ge h64, hH.2.1]
  have e28 : s.vm.findClass ("[" ++ (FieldType.array .int).toString) = some (ax_Y G 28) := (hKK.2.1 28 (by omega) (by omega)).2
  have e21 : s.vm.findClass (FieldType.array .int).toString = some (ax_Y G 21) := (hKK.2.1 21 (by omega) (by omega)).2
  refine ax_Wm hexec hb hown (hts _ hw) (hKK.2.2.1 _ ax_aoi rfl) (hts _ ax_ac21) (ax_dq_of hd) hn hk hN hK hc hs fun H1 cA cI fA fC z1 o1 b1 r1 => ?_
  have eA : cA = ax_Y G 28 := Option.some.inj (fA.symm.trans e28)
  have eI : cI = ax_Y G 21 := Option.some.inj (fC.symm.trans e21)
  subst eA
  subst eI
  have k1 := kk p e s m args below meth c hx H1 locs ls (hH.grid _ _ z1 o1 b1 r1) hl hq
  rw [List.map_cons, ax_cv_some (by omega), ead] at k1
  exact k1
def Fresh (μ : ax_M) (L k : Nat) : Prop := mN μ = L + 1 ∧ μ.2.1 L = (k, 0) ∧ (∀ j, gI μ L j = 0) ∧ ∀ j, gR μ L j = none
theorem Fresh.of (μ : ax_M) (k : Nat) : Fresh (nC μ k 0) (mN μ) k := ⟨rfl, by show (if mN μ = mN μ then _ else _) = _; exact if_pos rfl, fun j => by rw [ax_gI_nC, if_pos rfl], fun j => by rw [ax_gR_nC, if_pos rfl]⟩
theorem Fresh.K {μ : ax_M} {L k : Nat} (h : Fresh μ L k) : mK μ L = k := by unfold mK; rw [h.2.1]
theorem sR_nC {μ : ax_M} {a i k z : Nat} {v : Option Nat} (h : a ≠ mN μ) : sR (nC μ k z) a i v = nC (sR μ a i v) k z := by
  refine Prod.ext rfl (Prod.ext rfl (Prod.ext rfl (Prod.ext rfl (funext fun b => funext fun j => ?_))))
  show (if b = a ∧ j = i then v else (if b = mN μ then none else μ.2.2.2.2 b j)) = (if b = mN μ then none else if b = a ∧ j = i then v else μ.2.2.2.2 b j)
  by_cases e : b = a ∧ j = i
  · rw [if_pos e, if_neg (by rw [e.1]; exact h), if_pos e]
  · rw [if_neg e]
    by_cases e2 : b = mN μ
    · rw [if_pos e2, if_pos e2]
    · rw [if_neg e2, if_neg e2, if_neg e]
theorem sR_sR {μ : ax_M} {a i b j : Nat} {v w : Option Nat} (h : a ≠ b) : sR (sR μ a i v) b j w = sR (sR μ b j w) a i v := by
  refine Prod.ext rfl (Prod.ext rfl (Prod.ext rfl (Prod.ext rfl (funext fun x => funext fun y => ?_))))
  show (if x = b ∧ y = j then w else (if x = a ∧ y = i then v else μ.2.2.2.2 x y)) = (if x = a ∧ y = i then v else (if x = b ∧ y = j then w else μ.2.2.2.2 x y))
  by_cases e : x = b ∧ y = j
  · rw [if_pos e, if_neg (by omega), if_pos e]
  · rw [if_neg e]
    by_cases e2 : x = a ∧ y = i
    · rw [if_pos e2, if_pos e2]
    · rw [if_neg e2, if_neg e2, if_neg e]
def ctt (n L : Nat) : Option Nat → Option Nat
  | none => none
  | some r => if r < n then some (L + r) else none
/-- a block of cells under construction, by its tables of kinds and references -/
def Iv (T : Nat → Nat × Nat) (R : Nat → Nat → Option Nat) (μ0 μ : ax_M) (L n : Nat) : Prop := mN μ = L + n ∧ Ag L μ0 μ ∧ ∀ o, o < n → μ.2.1 (L + o) = T o ∧ ∀ j, gI μ (L + o) j = 0 ∧ gR μ (L + o) j = ctt n L (R o j)
section Iv
variable {T : Nat → Nat × Nat} {R : Nat → Nat → Option Nat} {μ0 μ : ax_M} {L n : Nat}
theorem Iv.ref (h : Iv T R μ0 μ L n) {o j r : Nat} (ho : o < n) (hr : R o j = some r) (hlt : r < n) : gR μ (L + o) j = some (L + r) := by
  rw [((h.2.2 o ho).2 j).2, hr]
  exact if_pos hlt
theorem Iv.K (h : Iv T R μ0 μ L n) {o k z : Nat} (ho : o < n) (hT : T o = (k, z)) : mK μ (L + o) = k := by unfold mK; rw [(h.2.2 o ho).1, hT]
theorem Iv.Z (h : Iv T R μ0 μ L n) {o k z : Nat} (ho : o < n) (hT : T o = (k, z)) : mZ μ (L + o) = z := by unfold mZ; rw [(h.2.2 o ho).1, hT]
theorem Iv.st {k z g i : Nat} (h : Iv T R μ0 μ L n) (hT : T n = (k, z)) (hg : g < n) (hR : ∀ o j, R o j = some n → o = g ∧ j = i) (hR' : R g i = some n) (hn : ∀ j r, R n j = some r → n < r) : Iv T R μ0 (sR (nC μ k z) (L + g) i (some (mN μ))) L (n + 1) := by
  obtain ⟨h1, h2, h3⟩ := h
  refine ⟨by show mN μ + 1 = _; omega, fun b hb => ?_, fun o ho => ?_⟩
  · have a := (Ag.new μ k z) b (by omega)
    have c := h2 b hb
    refine ⟨a.1.trans c.1, fun j => ⟨(a.2 j).1.trans (c.2 j).1, (a.2 j).2.1.trans (c.2 j).2.1, ?_⟩⟩
    rw [rR_n (Or.inl (by omega))]
    exact (a.2 j).2.2.trans (c.2 j).2.2
  · by_cases e : o = n
    · subst e
      refine ⟨?_, fun j => ⟨?_, ?_⟩⟩
      · show (if L + o = mN μ then (k, z) else μ.2.1 (L + o)) = _
        rw [if_pos h1.symm, hT]
      · rw [iR, ax_gI_nC, if_pos h1.symm]
      · rw [rR_n (Or.inl (by omega)), ax_gR_nC, if_pos h1.symm]
        cases hr : R o j with
        | none => rfl
        | some r =>
          have := hn j r hr
          show none = (if r < o + 1 then _ else none)
          rw [if_neg (by omega)]
    · have q := h3 o (by omega)
      refine ⟨?_, fun j => ⟨?_, ?_⟩⟩
      · show (if L + o = mN μ then (k, z) else μ.2.1 (L + o)) = _
        rw [if_neg (by omega)]
        exact q.1
      · rw [iR, nCI (by omega)]
        exact (q.2 j).1
      · by_cases e2 : o = g ∧ j = i
        · obtain ⟨rfl, rfl⟩ := e2
          rw [rR_s, hR', h1]
          show _ = if n < n + 1 then _ else none
          rw [if_pos (by omega)]
        · rw [rR_n (by omega), nCR (by omega), (q.2 j).2]
          cases hr : R o j with
          | none => rfl
          | some r =>
            have : r ≠ n := fun er => e2 (hR o j (by rw [hr, er]))
            show (if r < n then some (L + r) else none) = if r < n + 1 then some (L + r) else none
            by_cases e3 : r < n
            · rw [if_pos e3, if_pos (by omega)]
            · rw [if_neg e3, if_neg (by omega)]
end Iv
def ldT (o : Nat) : Nat × Nat := if o = 0 then (3, 0) else if o = 1 then (27, 8) else if o = 2 then (24, 20) else if o = 3 then (25, 3) else if o = 4 then (26, 3) else if o < 13 then (8, 0) else if o < 33 then (0, 0) else if o < 39 then (if o % 2 = 1 then (2, 0) else (21, 4)) else (5, 0)
def ldR (o j : Nat) : Option Nat := if o = 0 then (if j < 4 then some (1 + j) else none) else if o = 1 then (if j < 8 then some (5 + j) else none) else if o = 2 then (if j < 20 then some (13 + j) else none) else if o = 3 then (if j < 3 then some (33 + 2 * j) else none) else if o = 4 then (if j < 3 then some (39 + j) else none) else if 33 ≤ o ∧ o < 39 ∧ o % 2 = 1 ∧ j = 0 then some (o + 1) else none
theorem ldR_0 {j : Nat} (h : j < 4) : ldR 0 j = some (1 + j) := if_pos h
theorem ldR_1 {j : Nat} (h : j < 8) : ldR 1 j = some (5 + j) := if_pos h
theorem ldR_2 {j : Nat} (h : j < 20) : ldR 2 j = some (13 + j) := if_pos h
theorem ldR_3 {j : Nat} (h : j < 3) : ldR 3 j = some (33 + 2 * j) := if_pos h
theorem ldR_4 {j : Nat} (h : j < 3) : ldR 4 j = some (39 + j) := if_pos h
theorem ldR_h {i : Nat} (h : i < 3) : ldR (33 + 2 * i) 0 = some (34 + 2 * i) := by
  unfold ldR
  rw [if_neg (by omega), if_neg (by omega), if_neg (by omega), if_neg (by omega), if_neg (by omega), if_pos (by omega)]
  congr 1
  omega
theorem ldT_t {i : Nat} (h : i < 8) : ldT (5 + i) = (8, 0) := by
  unfold ldT
  rw [if_neg (by omega), if_neg (by omega), if_neg (by omega), if_neg (by omega), if_neg (by omega), if_pos (by omega)]
theorem ldT_c {i : Nat} (h : i < 20) : ldT (13 + i) = (0, 0) := by
  unfold ldT
  rw [if_neg (by omega), if_neg (by omega), if_neg (by omega), if_neg (by omega), if_neg (by omega), if_neg (by omega), if_pos (by omega)]
theorem ldT_h {i : Nat} (h : i < 3) : ldT (33 + 2 * i) = (2, 0) := by
  unfold ldT
  rw [if_neg (by omega), if_neg (by omega), if_neg (by omega), if_neg (by omega), if_neg (by omega), if_neg (by omega), if_neg (by omega), if_pos (by omega), if_pos (by omega)]
theorem ldT_w {i : Nat} (h : i < 3) : ldT (34 + 2 * i) = (21, 4) := by
  unfold ldT
  rw [if_neg (by omega), if_neg (by omega), if_neg (by omega), if_neg (by omega), if_neg (by omega), if_neg (by omega), if_neg (by omega), if_pos (by omega), if_neg (by omega)]
theorem ldT_o {i : Nat} (h : i < 3) : ldT (39 + i) = (5, 0) := by
  unfold ldT
  rw [if_neg (by omega), if_neg (by omega), if_neg (by omega), if_neg (by omega), if_neg (by omega), if_neg (by omega), if_neg (by omega), if_neg (by omega)]
/-- who refers to cell n -/
theorem ldR_inv {o j n : Nat} (h : ldR o j = some n) : (o = 0 ∧ j < 4 ∧ n = 1 + j) ∨ (o = 1 ∧ j < 8 ∧ n = 5 + j) ∨ (o = 2 ∧ j < 20 ∧ n = 13 + j) ∨ (o = 3 ∧ j < 3 ∧ n = 33 + 2 * j) ∨ (o = 4 ∧ j < 3 ∧ n = 39 + j) ∨ (33 ≤ o ∧ o < 39 ∧ o % 2 = 1 ∧ j = 0 ∧ n = o + 1) := by
  unfold ldR at h
  split at h
  · split at h
    · cases h; omega
    · cases h
  · split at h
    · split at h
      · cases h; omega
      · cases h
    · split at h
      · split at h
        · cases h; omega
        · cases h
      · split at h
        · split at h
          · cases h; omega
          · cases h
        · split at h
          · split at h
            · cases h; omega
            · cases h
          · split at h
            · cases h; omega
            · cases h
theorem Iv.lst {μ0 μ : ax_M} {L n k z g i : Nat} (h : Iv ldT ldR μ0 μ L n) (hT : ldT n = (k, z)) (hg : g < n) (hR : ldR g i = some n) : Iv ldT ldR μ0 (sR (nC μ k z) (L + g) i (some (mN μ))) L (n + 1) := by
  have q := ldR_inv hR
  exact h.st hT hg (fun o j e => by have := ldR_inv e; omega) hR (fun j r e => by have := ldR_inv e; omega)
theorem Iv.land {μ0 μ : ax_M} {L : Nat} (h : Iv ldT ldR μ0 μ L 42) (hL : 64 ≤ L) : isLand μ L := by
  have e : L + 0 = L := rfl
  refine ⟨⟨hL, h.K (o := 0) (by omega) rfl⟩, ⟨h.ref (o := 0) (by omega) (ldR_0 (by omega)) (by omega), by omega, h.K (o := 1) (by omega) rfl, h.Z (o := 1) (by omega) rfl, fun t ht => ⟨?_, by dsimp only; omega, ?_⟩, by omega⟩, ⟨h.ref (o := 0) (by omega) (ldR_0 (by omega)) (by omega), by omega, h.K (o := 2) (by omega) rfl, h.Z (o := 2) (by omega) rfl, fun t ht => ⟨?_, by dsimp only; omega, ?_⟩, by omega⟩, ⟨h.ref (o := 0) (by omega) (ldR_0 (by omega)) (by omega), by omega, h.K (o := 3) (by omega) rfl, h.Z (o := 3) (by omega) rfl, fun t ht => ⟨?_, by dsimp only; omega, ?_⟩, by omega⟩, ⟨h.ref (o := 0) (by omega) (ldR_0 (by omega)) (by omega), by omega, h.K (o := 4) (by omega) rfl, h.Z (o := 4) (by omega) rfl, fun t ht => ⟨?_, by dsimp only; omega, ?_⟩, by omega⟩, fun i hi => ⟨?_, ?_, ?_⟩⟩
  · show _ = some (L + 5 + t)
    rw [h.ref (o := 1) (by omega) (ldR_1 ht) (by omega)]
    congr 1
    omega
  · show mK μ (L + 5 + t) = 8
    rw [show L + 5 + t = L + (5 + t) by omega]
    exact h.K (by omega) (ldT_t ht)
  · show _ = some (L + 13 + t)
    rw [h.ref (o := 2) (by omega) (ldR_2 ht) (by omega)]
    congr 1
    omega
  · show mK μ (L + 13 + t) = 0
    rw [show L + 13 + t = L + (13 + t) by omega]
    exact h.K (by omega) (ldT_c ht)
  · show _ = some (L + 33 + 2 * t)
    rw [h.ref (o := 3) (by omega) (ldR_3 ht) (by omega)]
    congr 1
    omega
  · show mK μ (L + 33 + 2 * t) = 2
    rw [show L + 33 + 2 * t = L + (33 + 2 * t) by omega]
    exact h.K (by omega) (ldT_h ht)
  · show _ = some (L + 39 + t)
    rw [h.ref (o := 4) (by omega) (ldR_4 ht) (by omega)]
    congr 1
    omega
  · show mK μ (L + 39 + t) = 5
    rw [show L + 39 + t = L + (39 + t) by omega]
    exact h.K (by omega) (ldT_o ht)
  · rw [show L + 33 + 2 * i = L + (33 + 2 * i) by omega, h.ref (by omega) (ldR_h hi) (by omega)]
    congr 1
    omega
  · rw [show L + 34 + 2 * i = L + (34 + 2 * i) by omega]
    exact h.K (by omega) (ldT_w hi)
  · rw [show L + 34 + 2 * i = L + (34 + 2 * i) by omega]
    exact h.Z (by omega) (ldT_w hi)
section CT
variable {l : Launch} {G : ax_G} {μ : ax_M} {K : ax_M → Prop}
theorem d42 {b : Nat} (h : 64 ≤ b) (q : K μ) : ax_CV l G 42 [ax_r (some b)] μ K := by
  refine ax_Ct.of (by decide) (Nat.le_of_ble_eq_true rfl) (sg42_0 l G _ b _ ?_)
  exact ⟨h, rfl, q⟩
theorem d11 {b : Nat} (h : 64 ≤ b) (q : K μ) : ax_CV l G 11 [ax_r (some b)] μ K := by
  refine ax_Ct.of (by decide) (Nat.le_of_ble_eq_true rfl) (sg11_0 l G _ b _ ?_)
  exact ⟨h, rfl, q⟩
theorem d31 {b : Nat} (h : 64 ≤ b) (q : K μ) : ax_CV l G 31 [ax_r (some b)] μ K := by
  refine ax_Ct.of (by decide) (Nat.le_of_ble_eq_true rfl) (sg31_0 l G _ b _ ?_)
  exact ⟨h, rfl, q⟩
theorem d15 {b : Nat} (h : 64 ≤ b) (hk : mK μ b = 2) (hb : b ≠ mN μ) (q : K (sR (nC μ 21 4) b 0 (some (mN μ)))) : ax_CV l G 15 [ax_r (some b)] μ K := by
  refine ax_Ct.of (by decide) (Nat.le_of_ble_eq_true rfl) (sg15_0 l G _ b _ ?_)
  exact ⟨h, ⟨by decide, by decide +kernel⟩, ax_gd.mk (by decide) (by decide +kernel) ⟨⟨h, by rw [nCK hb]; exact hk⟩, ax_gd.mk (by decide) (by decide +kernel) ⟨rfl, q⟩⟩⟩
theorem d43 {b a : Nat} (h : 64 ≤ b) (hk : mK μ b = 9) (q : K (sR μ b 0 (some a))) : ax_CV l G 43 [ax_r (some b), ax_r (some a)] μ K := by
  refine ax_Ct.of (by decide) (Nat.le_of_ble_eq_true rfl) (sg43_0 l G _ b a _ ?_)
  exact ⟨h, ⟨h, hk⟩, rfl, q⟩
end CT
