/-! frames: what a call leaves as it was -/
def Fr (P : Nat → Nat → Prop) (μ μ' : ax_M) : Prop := μ'.1 = μ.1 ∧ μ'.2.1 = μ.2.1 ∧ μ'.2.2.2.1 = μ.2.2.2.1 ∧ μ'.2.2.2.2 = μ.2.2.2.2 ∧ ∀ a k, ¬ P a k → gI μ' a k = gI μ a k
theorem Fr.refl (P : Nat → Nat → Prop) (μ : ax_M) : Fr P μ μ := ⟨rfl, rfl, rfl, rfl, fun _ _ _ => rfl⟩
theorem Fr.trans {P : Nat → Nat → Prop} {μ μ1 μ2 : ax_M} (h : Fr P μ μ1) (k : Fr P μ1 μ2) : Fr P μ μ2 := ⟨k.1.trans h.1, k.2.1.trans h.2.1, k.2.2.1.trans h.2.2.1, k.2.2.2.1.trans h.2.2.2.1, fun a j hn => (k.2.2.2.2 a j hn).trans (h.2.2.2.2 a j hn)⟩
theorem Fr.mono {P P' : Nat → Nat → Prop} {μ μ1 : ax_M} (h : Fr P μ μ1) (hp : ∀ a k, P a k → P' a k) : Fr P' μ μ1 := ⟨h.1, h.2.1, h.2.2.1, h.2.2.2.1, fun a j hn => h.2.2.2.2 a j (fun q => hn (hp a j q))⟩
theorem Fr.put {P : Nat → Nat → Prop} {μ μ1 : ax_M} (h : Fr P μ μ1) {a k : Nat} {v : Int32} (hp : P a k) : Fr P μ (sI μ1 a k v) := ⟨h.1, h.2.1, h.2.2.1, h.2.2.2.1, fun b j hn => by
  rw [iI, if_neg (fun q => hn (by rw [q.1, q.2]; exact hp))]; exact h.2.2.2.2 b j hn⟩
theorem Fr.K {P : Nat → Nat → Prop} {μ μ1 : ax_M} (h : Fr P μ μ1) (a : Nat) : mK μ1 a = mK μ a := by unfold mK; rw [h.2.1]
theorem Fr.Z {P : Nat → Nat → Prop} {μ μ1 : ax_M} (h : Fr P μ μ1) (a : Nat) : mZ μ1 a = mZ μ a := by unfold mZ; rw [h.2.1]
theorem Fr.R {P : Nat → Nat → Prop} {μ μ1 : ax_M} (h : Fr P μ μ1) (a k : Nat) : gR μ1 a k = gR μ a k := by unfold gR; rw [h.2.2.2.1]
theorem Fr.L {P : Nat → Nat → Prop} {μ μ1 : ax_M} (h : Fr P μ μ1) (a k : Nat) : gL μ1 a k = gL μ a k := by unfold gL; rw [h.2.2.1]
theorem Fr.I {P : Nat → Nat → Prop} {μ μ1 : ax_M} (h : Fr P μ μ1) {a k : Nat} (hn : ¬ P a k) : gI μ1 a k = gI μ a k := h.2.2.2.2 a k hn
theorem isCourse.fr {P : Nat → Nat → Prop} {μ μ1 : ax_M} {c : Nat} (hc : isCourse μ c) (h : Fr P μ μ1) : isCourse μ1 c := by
  obtain ⟨n, kz, i, lo, r⟩ := μ
  obtain ⟨n1, kz1, i1, lo1, r1⟩ := μ1
  obtain ⟨-, rfl, -, rfl, -⟩ : n1 = n ∧ kz1 = kz ∧ lo1 = lo ∧ r1 = r ∧ _ := h
  exact hc
theorem isLand.fr {P : Nat → Nat → Prop} {μ μ1 : ax_M} {L : Nat} (hl : isLand μ L) (h : Fr P μ μ1) : isLand μ1 L := by
  obtain ⟨n, kz, i, lo, r⟩ := μ
  obtain ⟨n1, kz1, i1, lo1, r1⟩ := μ1
  obtain ⟨-, rfl, -, rfl, -⟩ : n1 = n ∧ kz1 = kz ∧ lo1 = lo ∧ r1 = r ∧ _ := h
  exact hl
theorem RepL.fr {P : Nat → Nat → Prop} {μ μ1 : ax_M} {L : Nat} {a : Ld} (ha : LdOk a) (hl : RepL μ L a) (h : Fr P μ μ1) (hp : ∀ b k, L ≤ b → b < L + 42 → ¬ P b k) : RepL μ1 L a := by
  obtain ⟨h0, h1, h2, h3, h4, h5⟩ := hl
  obtain ⟨-, -, b1, b2, b3, b4, -⟩ := ha
  refine ⟨h0.fr h, fun k hk => ?_, fun t ht f hf => ?_, fun k hk => ⟨fun f hf => ?_, fun hh => ?_⟩, fun k hk => ⟨?_, ?_, fun g hg => ?_⟩, fun o ho f hf => ?_⟩
  · rw [h.I (hp _ _ (by omega) (by omega))]; exact h1 k hk
  · rw [h.I (hp _ _ (by omega) (by omega))]; exact h2 t ht f hf
  · rw [h.I (hp _ _ (by omega) (by omega))]; exact (h3 k hk).1 f hf
  · rw [h.I (hp _ _ (by omega) (by omega))]; exact (h3 k hk).2 hh
  · rw [h.I (hp _ _ (by omega) (by omega))]; exact (h4 k hk).1
  · rw [h.I (hp _ _ (by omega) (by omega))]; exact (h4 k hk).2.1
  · rw [h.I (hp _ _ (by omega) (by omega))]; exact (h4 k hk).2.2 g hg
  · rw [h.I (hp _ _ (by omega) (by omega))]; exact h5 o ho f hf
theorem RepL.all {μ : ax_M} {L : Nat} {a : Ld} (h : RepL μ L a) : (gI μ L 4 = nI (nMo a) ∧ gI μ L 5 = nI (nGr a) ∧ gI μ L 6 = nI (nTh a) ∧ gI μ L 7 = nI (nCh a) ∧ gI μ L 8 = nI (nTo a) ∧ gI μ L 9 = nI (nHo a) ∧ gI μ L 10 = nI (nOf a)) ∧
  (∀ t, t < nTh a → gI μ (L + 5 + t) 0 = nI (tG a t) ∧ gI μ (L + 5 + t) 1 = nI (a.2.1 t 1) ∧ gI μ (L + 5 + t) 2 = nI (a.2.1 t 2) ∧ gI μ (L + 5 + t) 3 = nI (a.2.1 t 3)) ∧
  (∀ k, k < nCh a → gI μ (L + 13 + k) 0 = nI (cT a k) ∧ gI μ (L + 13 + k) 1 = nI (cM a k) ∧ gI μ (L + 13 + k) 2 = nI (cH a k)) ∧
  (∀ k, k < nCh a → cH a k ≤ 4 → gI μ (L + 13 + k) 3 = nI (cB a k)) ∧
  (∀ h, h < nHo a → gI μ (L + 33 + 2 * h) 1 = nI (hN a h) ∧ gI μ (L + 33 + 2 * h) 2 = nI (hP a h)) ∧
  (∀ h g, h < nHo a → g < 4 → gI μ (L + 34 + 2 * h) g = nI (hW a h g)) ∧
  (∀ o, o < nOf a → gI μ (L + 39 + o) 0 = nI (oM a o) ∧ gI μ (L + 39 + o) 1 = nI (oS a o) ∧ gI μ (L + 39 + o) 2 = nI (oB a o)) := by
  obtain ⟨-, h1, h2, h3, h4, h5⟩ := h
  exact ⟨⟨h1 0 (by omega), h1 1 (by omega), h1 2 (by omega), h1 3 (by omega), h1 4 (by omega), h1 5 (by omega), h1 6 (by omega)⟩, fun t ht => ⟨h2 t ht 0 (by omega), h2 t ht 1 (by omega), h2 t ht 2 (by omega), h2 t ht 3 (by omega)⟩, fun k hk => ⟨(h3 k hk).1 0 (by omega), (h3 k hk).1 1 (by omega), (h3 k hk).1 2 (by omega)⟩, fun k hk => (h3 k hk).2, fun k hk => ⟨(h4 k hk).1, (h4 k hk).2.1⟩, fun k g hk hg => (h4 k hk).2.2 g hg, fun o ho => ⟨h5 o ho 0 (by omega), h5 o ho 1 (by omega), h5 o ho 2 (by omega)⟩⟩
theorem LdOk.bd {a : Ld} (h : LdOk a) : 2 ≤ nMo a ∧ nMo a ≤ 12 ∧ nGr a ≤ 4 ∧ 1 ≤ nTh a ∧ nTh a ≤ 8 ∧ nCh a ≤ 20 ∧ nTo a ≤ nCh a ∧ 1 ≤ nHo a ∧ nHo a ≤ 3 ∧ 1 ≤ nOf a ∧ nOf a ≤ 3 :=
  ⟨h.1.1, h.1.2, h.2.1, h.2.2.1.1, h.2.2.1.2, h.2.2.2.1.1, h.2.2.2.1.2, h.2.2.2.2.1.1, h.2.2.2.2.1.2, h.2.2.2.2.2.1.1, h.2.2.2.2.2.1.2⟩
theorem LdOk.tg {a : Ld} (h : LdOk a) {t : Nat} (ht : t < nTh a) : tG a t < nGr a := (h.2.2.2.2.2.2.1 t ht).1
theorem LdOk.ch {a : Ld} (h : LdOk a) {k : Nat} (hk : k < nCh a) : cT a k < nTh a ∧ 1 ≤ cM a k ∧ cM a k ≤ 11 ∧ cH a k ≤ 6 ∧ (cH a k ≤ 4 → 1 ≤ cB a k ∧ cB a k ≤ 999) := by
  have q := h.2.2.2.2.2.2.2.1 k hk
  exact ⟨q.1, q.2.1.1, q.2.1.2, q.2.2.1, q.2.2.2⟩
theorem LdOk.hw {a : Ld} (h : LdOk a) {k : Nat} (hk : k < nHo a) : hN a k ≤ 99 ∧ hP a k ≤ 999 ∧ ∀ g, g < 4 → hW a k g ≤ 99 := h.2.2.2.2.2.2.2.2.1 k hk
theorem LdOk.of {a : Ld} (h : LdOk a) {o : Nat} (ho : o < nOf a) : oM a o ≤ 2 ∧ oS a o ≤ 1 ∧ oB a o ≤ 1 := h.2.2.2.2.2.2.2.2.2 o ho
/-- a course over a land -/
def WL (μ : ax_M) (c L : Nat) (a : Ld) : Prop := LdOk a ∧ isCourse μ c ∧ gR μ c 8 = some L ∧ RepL μ L a ∧ (L + 42 ≤ c ∨ c + 81 ≤ L)
theorem WL.bd {μ : ax_M} {c L : Nat} {a : Ld} (h : WL μ c L a) : (2 ≤ nMo a ∧ nMo a ≤ 12 ∧ nGr a ≤ 4 ∧ 1 ≤ nTh a ∧ nTh a ≤ 8 ∧ nCh a ≤ 20 ∧ nTo a ≤ nCh a ∧ 1 ≤ nHo a ∧ nHo a ≤ 3 ∧ 1 ≤ nOf a ∧ nOf a ≤ 3) ∧ 64 ≤ c ∧ 64 ≤ L := ⟨h.1.bd, h.2.1.ge, h.2.2.2.1.1.ge⟩
theorem WL.fr {P : Nat → Nat → Prop} {μ μ1 : ax_M} {c L : Nat} {a : Ld} (h : WL μ c L a) (f : Fr P μ μ1) (hp : ∀ b k, P b k → c ≤ b ∧ b < c + 81) : WL μ1 c L a := by
  obtain ⟨h1, h2, h3, h4, h5⟩ := h
  exact ⟨h1, h2.fr f, by rw [f.R]; exact h3, h4.fr h1 f (fun b k hb1 hb2 q => by have := hp b k q; omega), h5⟩
/-- and what things are, month by month -/
def CT (μ : ax_M) (c L : Nat) (a : Ld) : Prop := WL μ c L a ∧ ∀ t m, t < nTh a → m < nMo a → RepT μ c a t m ∧ gI μ (c + 29 + t) m = nI (lst a t m)
theorem CT.tab {μ : ax_M} {c L : Nat} {a : Ld} (h : CT μ c L a) : ∀ t m, t < nTh a → m < nMo a → gI μ (c + 2 + t) m = nI (Sz a t m) ∧ gI μ (c + 11 + t) m = nI (Sf a t m) ∧ gI μ (c + 20 + t) m = nI (Pr a t m) ∧ gI μ (c + 47 + t) m = bI (Tr a t m) ∧ gI μ (c + 29 + t) m = nI (lst a t m) := by
  intro t m ht hm
  obtain ⟨⟨h1, h2, h3, h4⟩, h5⟩ := h.2 t m ht hm
  exact ⟨h1, h2, h3, h4, h5⟩
theorem CT.bd {μ : ax_M} {c L : Nat} {a : Ld} (h : CT μ c L a) : (2 ≤ nMo a ∧ nMo a ≤ 12 ∧ nGr a ≤ 4 ∧ 1 ≤ nTh a ∧ nTh a ≤ 8 ∧ nCh a ≤ 20 ∧ nTo a ≤ nCh a ∧ 1 ≤ nHo a ∧ nHo a ≤ 3 ∧ 1 ≤ nOf a ∧ nOf a ≤ 3) ∧ 64 ≤ c ∧ 64 ≤ L := h.1.bd
theorem CT.fr {P : Nat → Nat → Prop} {μ μ1 : ax_M} {c L : Nat} {a : Ld} (h : CT μ c L a) (f : Fr P μ μ1) (hp : ∀ b k, P b k → (c + 38 ≤ b ∧ b < c + 46) ∨ (c + 56 ≤ b ∧ b < c + 81)) : CT μ1 c L a := by
  have hb := h.bd
  refine ⟨h.1.fr f (fun b k q => by have := hp b k q; omega), fun t m ht hm => ?_⟩
  obtain ⟨⟨h1, h2, h3, h4⟩, h5⟩ := h.2 t m ht hm
  unfold RepT
  rw [f.I (fun q => by have := hp _ _ q; omega), f.I (fun q => by have := hp _ _ q; omega), f.I (fun q => by have := hp _ _ q; omega), f.I (fun q => by have := hp _ _ q; omega), f.I (fun q => by have := hp _ _ q; omega)]
  exact ⟨⟨h1, h2, h3, h4⟩, h5⟩
/-- and what houses buy -/
def CB (μ : ax_M) (c L : Nat) (a : Ld) : Prop := CT μ c L a ∧ ∀ h g m, h < nHo a → g < nGr a → m < nMo a → gI μ (c + 56 + (h * 4 + g)) m = enc (buy a h g m).1 ∧ gI μ (c + 69 + (h * 4 + g)) m = nI (buy a h g m).2
theorem CB.bd {μ : ax_M} {c L : Nat} {a : Ld} (h : CB μ c L a) : (2 ≤ nMo a ∧ nMo a ≤ 12 ∧ nGr a ≤ 4 ∧ 1 ≤ nTh a ∧ nTh a ≤ 8 ∧ nCh a ≤ 20 ∧ nTo a ≤ nCh a ∧ 1 ≤ nHo a ∧ nHo a ≤ 3 ∧ 1 ≤ nOf a ∧ nOf a ≤ 3) ∧ 64 ≤ c ∧ 64 ≤ L := h.1.bd
theorem CB.fr {P : Nat → Nat → Prop} {μ μ1 : ax_M} {c L : Nat} {a : Ld} (h : CB μ c L a) (f : Fr P μ μ1) (hp : ∀ b k, P b k → c + 38 ≤ b ∧ b < c + 46) : CB μ1 c L a := by
  have hb := h.bd
  refine ⟨h.1.fr f (fun b k q => by have := hp b k q; omega), fun x y m hh hg hm => ?_⟩
  rw [f.I (fun q => by have := hp _ _ q; omega), f.I (fun q => by have := hp _ _ q; omega)]
  exact h.2 x y m hh hg hm
/-- all tables -/
def CA (μ : ax_M) (c L : Nat) (a : Ld) : Prop := CB μ c L a ∧ ∀ t m, t < nTh a → m < nMo a → gI μ (c + 38 + t) m = nI (allP a t m)
theorem CA.bd {μ : ax_M} {c L : Nat} {a : Ld} (h : CA μ c L a) : (2 ≤ nMo a ∧ nMo a ≤ 12 ∧ nGr a ≤ 4 ∧ 1 ≤ nTh a ∧ nTh a ≤ 8 ∧ nCh a ≤ 20 ∧ nTo a ≤ nCh a ∧ 1 ≤ nHo a ∧ nHo a ≤ 3 ∧ 1 ≤ nOf a ∧ nOf a ≤ 3) ∧ 64 ≤ c ∧ 64 ≤ L := h.1.bd
theorem CA.fr {P : Nat → Nat → Prop} {μ μ1 : ax_M} {c L : Nat} {a : Ld} (h : CA μ c L a) (f : Fr P μ μ1) (hp : ∀ b k, P b k → (b < c ∨ c + 81 ≤ b) ∧ (b < L ∨ L + 42 ≤ b)) : CA μ1 c L a := by
  have hb := h.bd
  refine ⟨⟨⟨⟨h.1.1.1.1, h.1.1.1.2.1.fr f, by rw [f.R]; exact h.1.1.1.2.2.1, h.1.1.1.2.2.2.1.fr h.1.1.1.1 f (fun b k h1 h2 q => by have := hp b k q; omega), h.1.1.1.2.2.2.2⟩, fun t m ht hm => ?_⟩, fun x y m hh hg hm => ?_⟩, fun t m ht hm => ?_⟩
  · obtain ⟨⟨h1, h2, h3, h4⟩, h5⟩ := h.1.1.2 t m ht hm
    unfold RepT
    rw [f.I (fun q => by have := hp _ _ q; omega), f.I (fun q => by have := hp _ _ q; omega), f.I (fun q => by have := hp _ _ q; omega), f.I (fun q => by have := hp _ _ q; omega), f.I (fun q => by have := hp _ _ q; omega)]
    exact ⟨⟨h1, h2, h3, h4⟩, h5⟩
  · rw [f.I (fun q => by have := hp _ _ q; omega), f.I (fun q => by have := hp _ _ q; omega)]
    exact h.1.2 x y m hh hg hm
  · rw [f.I (fun q => by have := hp _ _ q; omega)]
    exact h.2 t m ht hm
/-! searching and summing -/
def anyN (f : Nat → Bool) : Nat → Bool
  | 0 => false
  | n + 1 => anyN f n || f n
theorem anyN_t {f : Nat → Bool} : ∀ {n k : Nat}, k < n → f k = true → anyN f n = true
  | n + 1, k, hk, hf => by
    unfold anyN
    rcases Nat.lt_succ_iff_lt_or_eq.mp hk with h | rfl
    · rw [anyN_t h hf]; rfl
    · rw [hf, Bool.or_true]
theorem anyN_f {f : Nat → Bool} : ∀ {n : Nat}, (∀ k, k < n → f k = false) → anyN f n = false
  | 0, _ => rfl
  | n + 1, h => by unfold anyN; rw [anyN_f (fun k hk => h k (by omega)), h n (by omega)]; rfl
def allN (f : Nat → Bool) : Nat → Bool
  | 0 => true
  | n + 1 => allN f n && f n
theorem allN_f {f : Nat → Bool} : ∀ {n k : Nat}, k < n → f k = false → allN f n = false
  | n + 1, k, hk, hf => by
    unfold allN
    rcases Nat.lt_succ_iff_lt_or_eq.mp hk with h | rfl
    · rw [allN_f h hf]; rfl
    · rw [hf, Bool.and_false]
theorem allN_t {f : Nat → Bool} : ∀ {n : Nat}, (∀ k, k < n → f k = true) → allN f n = true
  | 0, _ => rfl
  | n + 1, h => by unfold allN; rw [allN_t (fun k hk => h k (by omega)), h n (by omega)]; rfl
theorem cmK_any (a : Ld) (t : Nat) : ∀ n, cmK a t n = anyN (fun k => decide (cT a k = t) && decide (cH a k = 6)) n
  | 0 => rfl
  | n + 1 => by unfold cmK anyN; rw [cmK_any a t n]
theorem bI_1 : bI true = nI 1 := by decide +kernel
theorem bI_z : bI false = nI 0 := by decide +kernel
section C1
variable {l : Launch} {G : ax_G} {μ : ax_M}
theorem d1 {x y z : Int64} {K : Int64 → ax_M → Prop} (q : 0 < y → K (x / y) μ) (q' : ¬ 0 < y → K z μ) : ax_CL l G 1 [ax_l x, ax_l y, ax_l z] μ K := by
  refine ax_Ct.of (by decide) (Nat.le_of_ble_eq_true rfl) (sg1_0 l G _ x y z _ ?_)
  try simp (disch := omega) only [wr_s, in_nI, clN, ti_z, ti_l, true_and, and_true, kI, zI, rI, kL, zL, rL, kR, zR, nnI, nnL, nnR, iL, iR, lI, lR, exi, exl, exv, eq_self, nI_add, nI_mul, nI_sub, nI_ltI, nI_leI, nI_eq, q1, q2, q3, q4, q5, q6, q10, q100, br_Tr, br_Fa, iI_s, iI_n, bI_q0, bI_q1, or_true, true_or, not_true_eq_false, not_false_eq_true, nI_l, ge64, Nat.lt_irrefl, Nat.add_sub_cancel, Nat.not_lt_zero]
  refine ax_brc (fun h => ?_) (fun h => ?_)
  · refine q' (fun h2 => ?_)
    rw [lg_cmp_le] at h
    exact absurd h2 (Int64.not_lt.mpr h)
  · rw [lg_cmp_le] at h
    have h2 := Int64.not_le.mp h
    exact ⟨fun e => by rw [e] at h2; exact absurd h2 (by decide), q h2⟩
theorem d6 {h g : Nat} {K : Int32 → ax_M → Prop} (q : K (nI (h * 4 + g)) μ) : ax_CI l G 6 [ax_i (nI h), ax_i (nI g)] μ K := by
  refine ax_Ct.of (by decide) (Nat.le_of_ble_eq_true rfl) (sg6_0 l G _ _ _ _ ?_)
  try simp (disch := omega) only [wr_s, in_nI, clN, ti_z, ti_l, true_and, and_true, kI, zI, rI, kL, zL, rL, kR, zR, nnI, nnL, nnR, iL, iR, lI, lR, exi, exl, exv, eq_self, nI_add, nI_mul, nI_sub, nI_ltI, nI_leI, nI_eq, q0, q1, q2, q3, q4, q5, q6, q10, q100, br_Tr, br_Fa, iI_s, iI_n, bI_q0, bI_q1, or_true, true_or, not_true_eq_false, not_false_eq_true, nI_l, ge64, Nat.lt_irrefl, Nat.add_sub_cancel, Nat.not_lt_zero]
  exact q
theorem d14 {c L t m : Nat} {a : Ld} {K : Int32 → ax_M → Prop} (hc : CT μ c L a) (ht : t < nTh a) (hm : m < nMo a) (q : K (bI (Tr a t m)) μ) : ax_CI l G 14 [ax_r (some c), ax_i (nI t), ax_i (nI m)] μ K := by
  have hb := hc.bd
  refine ax_Ct.of (by decide) (Nat.le_of_ble_eq_true rfl) (sg14_0 l G _ c _ _ _ ?_)
  try simp (disch := omega) only [hc.1.2.1.all, hc.1.2.2.1, hc.1.2.2.2.1.1.all, hc.1.2.2.2.1.all, hc.tab, wr_s, in_nI, clN, ti_z, ti_l, true_and, and_true, kI, zI, rI, kL, zL, rL, kR, zR, nnI, nnL, nnR, iL, iR, lI, lR, exi, exl, exv, eq_self, nI_add, nI_mul, nI_sub, nI_ltI, nI_leI, nI_eq, q0, q1, q2, q3, q4, q5, q6, q10, q100, br_Tr, br_Fa, iI_s, iI_n, bI_q0, bI_q1, or_true, true_or, not_true_eq_false, not_false_eq_true, nI_l, ge64, Nat.lt_irrefl, Nat.add_sub_cancel, Nat.not_lt_zero]
  cases h : Tr a t m
  · rw [h, bI_z] at q
    exact ax_brf (by decide) q
  · rw [h, bI_1] at q
    exact ax_brt rfl q
end C1
