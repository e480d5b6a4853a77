/-! a land as pure numbers: counts (0 months, 1 groups, 2 things, 3 changes, 4 told, 5 houses, 6 offices), things, changes, houses, offices -/
abbrev Ld : Type := (Nat → Nat) × (Nat → Nat → Nat) × (Nat → Nat → Nat) × (Nat → Nat → Nat) × (Nat → Nat → Nat)
abbrev nMo (a : Ld) : Nat := a.1 0
abbrev nGr (a : Ld) : Nat := a.1 1
abbrev nTh (a : Ld) : Nat := a.1 2
abbrev nCh (a : Ld) : Nat := a.1 3
abbrev nTo (a : Ld) : Nat := a.1 4
abbrev nHo (a : Ld) : Nat := a.1 5
abbrev nOf (a : Ld) : Nat := a.1 6
abbrev tG (a : Ld) (t : Nat) : Nat := a.2.1 t 0
abbrev cT (a : Ld) (k : Nat) : Nat := a.2.2.1 k 0
abbrev cM (a : Ld) (k : Nat) : Nat := a.2.2.1 k 1
abbrev cH (a : Ld) (k : Nat) : Nat := a.2.2.1 k 2
abbrev cB (a : Ld) (k : Nat) : Nat := a.2.2.1 k 3
abbrev hN (a : Ld) (h : Nat) : Nat := a.2.2.2.1 h 0
abbrev hP (a : Ld) (h : Nat) : Nat := a.2.2.2.1 h 1
abbrev hW (a : Ld) (h g : Nat) : Nat := a.2.2.2.1 h (2 + g)
abbrev oM (a : Ld) (o : Nat) : Nat := a.2.2.2.2 o 0
abbrev oS (a : Ld) (o : Nat) : Nat := a.2.2.2.2 o 1
abbrev oB (a : Ld) (o : Nat) : Nat := a.2.2.2.2 o 2
/-- what a text can tell, and changes behind it -/
def LdOk (a : Ld) : Prop :=
  (2 ≤ nMo a ∧ nMo a ≤ 12) ∧ nGr a ≤ 4 ∧ (1 ≤ nTh a ∧ nTh a ≤ 8) ∧ (nCh a ≤ 20 ∧ nTo a ≤ nCh a) ∧ (1 ≤ nHo a ∧ nHo a ≤ 3) ∧ (1 ≤ nOf a ∧ nOf a ≤ 3) ∧
  (∀ t, t < nTh a → tG a t < nGr a ∧ (10 ≤ a.2.1 t 1 ∧ a.2.1 t 1 ≤ 999) ∧ (10 ≤ a.2.1 t 2 ∧ a.2.1 t 2 ≤ 200) ∧ (1 ≤ a.2.1 t 3 ∧ a.2.1 t 3 ≤ 999)) ∧
  (∀ k, k < nCh a → cT a k < nTh a ∧ (1 ≤ cM a k ∧ cM a k ≤ 11) ∧ cH a k ≤ 6 ∧ (cH a k ≤ 4 → 1 ≤ cB a k ∧ cB a k ≤ 999)) ∧
  (∀ h, h < nHo a → hN a h ≤ 99 ∧ hP a h ≤ 999 ∧ ∀ g, g < 4 → hW a h g ≤ 99) ∧
  (∀ o, o < nOf a → oM a o ≤ 2 ∧ oS a o ≤ 1 ∧ oB a o ≤ 1)
/-- a thing in a month: size, stuff, price, there -/
abbrev Ts : Type := Nat × Nat × Nat × Bool
def ap1 (how by_ : Nat) (s : Ts) : Ts := match how with
  | 0 => (s.1, s.2.1, min 999 (s.2.2.1 + by_), s.2.2.2)
  | 1 => (s.1, s.2.1, max 1 (s.2.2.1 - by_), s.2.2.2)
  | 2 => (max 10 (s.1 - by_), s.2.1, s.2.2.1, s.2.2.2)
  | 3 => (s.1, max 10 (s.2.1 - by_), s.2.2.1, s.2.2.2)
  | 4 => (s.1, min 200 (s.2.1 + by_), s.2.2.1, s.2.2.2)
  | 5 => (s.1, s.2.1, s.2.2.1, false)
  | _ => (s.1, s.2.1, s.2.2.1, true)
def apK (a : Ld) (t m : Nat) : Nat → Ts → Ts
  | 0, s => s
  | k + 1, s => if cT a k = t ∧ cM a k = m then ap1 (cH a k) (cB a k) (apK a t m k s) else apK a t m k s
def cmK (a : Ld) (t : Nat) : Nat → Bool
  | 0 => false
  | k + 1 => cmK a t k || (decide (cT a k = t) && decide (cH a k = 6))
def stt (a : Ld) (t : Nat) : Nat → Ts
  | 0 => (a.2.1 t 1, a.2.1 t 2, a.2.1 t 3, !cmK a t (nCh a))
  | m + 1 => apK a t (m + 1) (nCh a) (stt a t m)
abbrev Sz (a : Ld) (t m : Nat) : Nat := (stt a t m).1
abbrev Sf (a : Ld) (t m : Nat) : Nat := (stt a t m).2.1
abbrev Pr (a : Ld) (t m : Nat) : Nat := (stt a t m).2.2.1
abbrev Tr (a : Ld) (t m : Nat) : Bool := (stt a t m).2.2.2
/-- the last month up to one in which a thing is there -/
def lst (a : Ld) (t : Nat) : Nat → Nat
  | 0 => 0
  | m + 1 => if Tr a t (m + 1) = true then m + 1 else lst a t m
def pcs (a : Ld) (w t m : Nat) : Nat := (w * 100 + Sz a t m * Sf a t m - 1) / (Sz a t m * Sf a t m)
/-- the best of a group so far, with what it costs -/
def bstK (a : Ld) (g w m : Nat) : Nat → Option (Nat × Nat)
  | 0 => none
  | t + 1 => if tG a t = g ∧ Tr a t m = true then (match bstK a g w m t with
      | none => some (t, pcs a w t m * Pr a t m)
      | some b => if pcs a w t m * Pr a t m < b.2 then some (t, pcs a w t m * Pr a t m) else some b)
    else bstK a g w m t
def best (a : Ld) (g w m : Nat) : Option (Nat × Nat) := bstK a g w m (nTh a)
def stays (a : Ld) (h t m : Nat) : Bool := Tr a t m && !decide (hN a h * Pr a t (m - 1) < (Pr a t m - Pr a t (m - 1)) * 100) && !decide (hN a h * Sz a t (m - 1) < (Sz a t (m - 1) - Sz a t m) * 100)
def anew (a : Ld) (h g m : Nat) : Option Nat × Nat := if hW a h g = 0 then (none, 0) else (match best a g (hW a h g) m with
  | none => (none, 0)
  | some b => (some b.1, pcs a (hW a h g) b.1 m))
/-- what a house buys of a group: the thing, the pieces -/
def buy (a : Ld) (h g : Nat) : Nat → Option Nat × Nat
  | 0 => anew a h g 0
  | m + 1 => match (buy a h g m).1 with
    | some t => if stays a h t (m + 1) = true then buy a h g m else anew a h g (m + 1)
    | none => anew a h g (m + 1)
def enc (x : Option Nat) : Int32 := match x with
  | none => -2
  | some t => nI t
/-- pieces that a house buys of a thing -/
def pcO (a : Ld) (h t m : Nat) : Nat := if (buy a h (tG a t) m).1 = some t then (buy a h (tG a t) m).2 else 0
def sumN (f : Nat → Nat) : Nat → Nat
  | 0 => 0
  | n + 1 => sumN f n + f n
def allP (a : Ld) (t m : Nat) : Nat := sumN (fun h => pcO a h t m) (nHo a)
/-! the class's memory holds a land, and its tables -/
def RepL (μ : ax_M) (L : Nat) (a : Ld) : Prop := isLand μ L ∧ (∀ k, k < 7 → gI μ L (4 + k) = nI (a.1 k)) ∧ (∀ t, t < nTh a → ∀ f, f < 4 → gI μ (L + 5 + t) f = nI (a.2.1 t f)) ∧
  (∀ k, k < nCh a → (∀ f, f < 3 → gI μ (L + 13 + k) f = nI (a.2.2.1 k f)) ∧ (cH a k ≤ 4 → gI μ (L + 13 + k) 3 = nI (cB a k))) ∧
  (∀ h, h < nHo a → gI μ (L + 33 + 2 * h) 1 = nI (hN a h) ∧ gI μ (L + 33 + 2 * h) 2 = nI (hP a h) ∧ ∀ g, g < 4 → gI μ (L + 34 + 2 * h) g = nI (hW a h g)) ∧
  (∀ o, o < nOf a → ∀ f, f < 3 → gI μ (L + 39 + o) f = nI (a.2.2.2.2 o f))
def RepT (μ : ax_M) (c : Nat) (a : Ld) (t m : Nat) : Prop := gI μ (c + 2 + t) m = nI (Sz a t m) ∧ gI μ (c + 11 + t) m = nI (Sf a t m) ∧ gI μ (c + 20 + t) m = nI (Pr a t m) ∧ gI μ (c + 47 + t) m = bI (Tr a t m)
def RepB (μ : ax_M) (c : Nat) (a : Ld) (h g m : Nat) : Prop := gI μ (c + 56 + (4 * h + g)) m = enc (buy a h g m).1 ∧ gI μ (c + 69 + (4 * h + g)) m = nI (buy a h g m).2
def RepC (μ : ax_M) (c : Nat) (a : Ld) : Prop := (∀ t, t < nTh a → ∀ m, m < nMo a → RepT μ c a t m ∧ gI μ (c + 29 + t) m = nI (lst a t m) ∧ gI μ (c + 38 + t) m = nI (allP a t m)) ∧ (∀ h, h < nHo a → ∀ g, g < nGr a → ∀ m, m < nMo a → RepB μ c a h g m)
/-! bounds -/
theorem ap1_in {how b : Nat} {s : Ts} (h : (10 ≤ s.1 ∧ s.1 ≤ 999) ∧ (10 ≤ s.2.1 ∧ s.2.1 ≤ 200) ∧ (1 ≤ s.2.2.1 ∧ s.2.2.1 ≤ 999)) : (10 ≤ (ap1 how b s).1 ∧ (ap1 how b s).1 ≤ 999) ∧ (10 ≤ (ap1 how b s).2.1 ∧ (ap1 how b s).2.1 ≤ 200) ∧ (1 ≤ (ap1 how b s).2.2.1 ∧ (ap1 how b s).2.2.1 ≤ 999) := by
  unfold ap1
  split <;> simp only <;> omega
theorem apK_in {a : Ld} {t m : Nat} : ∀ (k : Nat) {s : Ts}, ((10 ≤ s.1 ∧ s.1 ≤ 999) ∧ (10 ≤ s.2.1 ∧ s.2.1 ≤ 200) ∧ (1 ≤ s.2.2.1 ∧ s.2.2.1 ≤ 999)) → ((10 ≤ (apK a t m k s).1 ∧ (apK a t m k s).1 ≤ 999) ∧ (10 ≤ (apK a t m k s).2.1 ∧ (apK a t m k s).2.1 ≤ 200) ∧ (1 ≤ (apK a t m k s).2.2.1 ∧ (apK a t m k s).2.2.1 ≤ 999))
  | 0, s, h => h
  | k + 1, s, h => by
    unfold apK
    split
    · exact ap1_in (apK_in k h)
    · exact apK_in k h
theorem stt_in {a : Ld} (ha : LdOk a) {t : Nat} (ht : t < nTh a) : ∀ m, (10 ≤ Sz a t m ∧ Sz a t m ≤ 999) ∧ (10 ≤ Sf a t m ∧ Sf a t m ≤ 200) ∧ (1 ≤ Pr a t m ∧ Pr a t m ≤ 999)
  | 0 => (ha.2.2.2.2.2.2.1 t ht).2
  | m + 1 => apK_in (nCh a) (stt_in ha ht m)
theorem lst_le (a : Ld) (t : Nat) : ∀ m, lst a t m ≤ m
  | 0 => Nat.le_refl 0
  | m + 1 => by
    unfold lst
    split
    · exact Nat.le_refl _
    · exact Nat.le_succ_of_le (lst_le a t m)
theorem worth_in {a : Ld} (ha : LdOk a) {t : Nat} (ht : t < nTh a) (m : Nat) : 100 ≤ Sz a t m * Sf a t m ∧ Sz a t m * Sf a t m ≤ 199800 := by
  obtain ⟨h1, h2, -⟩ := stt_in ha ht m
  exact ⟨Nat.mul_le_mul h1.1 h2.1, Nat.mul_le_mul h1.2 h2.2⟩
theorem pcs_in {a : Ld} (ha : LdOk a) {t w : Nat} (ht : t < nTh a) (hw : w ≤ 99) (m : Nat) : pcs a w t m ≤ 99 := by
  obtain ⟨h1, h2⟩ := worth_in ha ht m
  unfold pcs
  generalize Sz a t m * Sf a t m = x at h1 h2
  apply Nat.le_of_lt_succ
  rw [Nat.div_lt_iff_lt_mul (by omega)]
  omega
