/-! what houses spend, miss and need; numbers; worths -/
theorem sumN_le {f : Nat → Nat} {b : Nat} : ∀ {n : Nat}, (∀ k, k < n → f k ≤ b) → sumN f n ≤ n * b
  | 0, _ => Nat.zero_le _
  | n + 1, h => by
    unfold sumN
    rw [Nat.succ_mul]
    exact Nat.add_le_add (sumN_le (fun k hk => h k (by omega))) (h n (by omega))
theorem sumN_cong {f g : Nat → Nat} : ∀ {n : Nat}, (∀ k, k < n → f k = g k) → sumN f n = sumN g n
  | 0, _ => rfl
  | n + 1, h => by unfold sumN; rw [sumN_cong (fun k hk => h k (by omega)), h n (by omega)]
theorem sumN_s (f : Nat → Nat) (n : Nat) : sumN f (n + 1) = sumN f n + f n := rfl
def cst1 (a : Ld) (h b p g : Nat) : Nat := match (buy a h g b).1 with
  | some t => (buy a h g b).2 * Pr a t (lst a t p)
  | none => 0
def cst (a : Ld) (h b p : Nat) : Nat := sumN (cst1 a h b p) (nGr a)
def mis1 (a : Ld) (h m g : Nat) : Nat := hW a h g * 100 - (match (buy a h g m).1 with
  | some t => (buy a h g m).2 * (Sz a t m * Sf a t m)
  | none => 0)
def mis (a : Ld) (h m : Nat) : Nat := sumN (mis1 a h m) (nGr a)
def tru1 (a : Ld) (h m g : Nat) : Nat := if hW a h g = 0 then 0 else (match best a g (hW a h g) m with
  | some b => b.2
  | none => 0)
def tru (a : Ld) (h m : Nat) : Nat := sumN (tru1 a h m) (nGr a)
def liv (a : Ld) (h m : Nat) : Nat := rat (tru a h m) (tru a h 0)
def asF (a : Ld) (m t : Nat) : Bool := decide (Tr a t m = Tr a t 0) && ((decide (Sz a t m = Sz a t 0) && decide (Sf a t m = Sf a t 0) && decide (Pr a t m = Pr a t 0)) || !Tr a t m)
def isBk (a : Ld) (m : Nat) : Bool := allN (asF a m) (nTh a)
def isLd (a : Ld) (h m : Nat) : Bool := anyN (fun g => decide (¬ (buy a h g m).1 = (buy a h g (m - 1)).1)) (nGr a)
def ledF (f : Nat → Bool) (x : Int32) : Nat → Nat → Nat → Option Nat
  | 0, _, _ => none
  | k + 1, m, n => if f m = true then (if nI n = x then some m else ledF f x k (m + 1) (n + 1)) else ledF f x k (m + 1) n
def led (a : Ld) (h : Nat) (x : Int32) : Option Nat := ledF (isLd a h) x (nMo a - 1) 1 0
def gss (a : Ld) (x y t m : Nat) : Nat := (x * Sz a t m + y * Sf a t m) / 100
def isW1 (a : Ld) (g m off x y t : Nat) : Bool := !(decide (tG a t = g) && Tr a t m) || (decide (Pr a t m ≤ gss a x y t m + off) && decide (gss a x y t m ≤ Pr a t m + off))
def isW (a : Ld) (g m off x y : Nat) : Bool := allN (isW1 a g m off x y) (nTh a)
def cntW (a : Ld) (g m off : Nat) : Nat := sumN (fun x => sumN (fun y => (isW a g m off x y).toNat) 21) 21
def fur (mo : Bool) (e : Option Nat) (v : Nat) : Bool := match e with
  | none => true
  | some b => cond mo (decide (b < v)) (decide (v < b))
def endS (a : Ld) (g m off w : Nat) (mo : Bool) (x y : Nat) (e : Option Nat) : Option Nat :=
  if (isW a g m off x y && fur mo e (if w = 0 then x else y)) = true then some (if w = 0 then x else y) else e
def endI (a : Ld) (g m off w : Nat) (mo : Bool) (x : Nat) (e : Option Nat) : Nat → Option Nat
  | 0 => e
  | y + 1 => endS a g m off w mo x y (endI a g m off w mo x e y)
def endO (a : Ld) (g m off w : Nat) (mo : Bool) : Nat → Option Nat
  | 0 => none
  | x + 1 => endI a g m off w mo x (endO a g m off w mo x) 21
def cnt (a : Ld) (o t m : Nat) : Nat := if oS a o = 1 then allP a t m * Sz a t m else allP a t m
def seP (a : Ld) (o t m : Nat) : Nat := if oS a o = 1 then Pr a t m * 1000 / Sz a t m else Pr a t m
def lft (a : Ld) (o t m : Nat) : Bool := decide (oM a o = 2) && !Tr a t m
def dif (x y : Nat) : Nat := (x - y) + (y - x)
def neaK (a : Ld) (t m : Nat) : Nat → Option (Nat × Nat)
  | 0 => none
  | k + 1 => if tG a k = tG a t ∧ Tr a k m = true then (match neaK a t m k with
      | none => some (k, dif (Sz a k m) (Sz a t (lst a t m)))
      | some b => if dif (Sz a k m) (Sz a t (lst a t m)) < b.2 then some (k, dif (Sz a k m) (Sz a t (lst a t m))) else some b)
    else neaK a t m k
def sIn1 (a : Ld) (o t m : Nat) : Nat := if Tr a t m = true ∨ ¬ oM a o = 1 then t else (match neaK a t m (nTh a) with
  | none => t
  | some b => b.1)
def pTh (a : Ld) (o li m t : Nat) : Nat := if cnt a o t li = 0 ∨ lft a o t m = true then 0 else cnt a o t li * seP a o (sIn1 a o t m) (if sIn1 a o t m = t then lst a t m else m)
def pOw (a : Ld) (o li m t : Nat) : Nat := if lft a o t m = true then 0 else cnt a o t li * seP a o t li
def lsM (a : Ld) (o m : Nat) : Nat := if oB a o = 1 then m - 1 else 0
def smT (a : Ld) (o m : Nat) : Nat := sumN (pTh a o (lsM a o m) m) (nTh a)
def smO (a : Ld) (o m : Nat) : Nat := sumN (pOw a o (lsM a o m) m) (nTh a)
def num (a : Ld) (o : Nat) : Nat → Nat
  | 0 => 10000
  | m + 1 => if oB a o = 1 then (if smO a o (m + 1) = 0 then num a o m else min 1000000 (num a o m * smT a o (m + 1) / smO a o (m + 1))) else rat (smT a o (m + 1)) (smO a o (m + 1))
def pen (a : Ld) (h o m : Nat) : Nat := hP a h * num a o m / 10000
def lck (a : Ld) (h o m : Nat) : Nat := sumN (fun i => tru a h i - pen a h o i) (m + 1)
/-! bounds -/
theorem cst1_in {a : Ld} (ha : LdOk a) {h b p g : Nat} (hh : h < nHo a) (hg : g < nGr a) : cst1 a h b p g ≤ 98901 := by
  have hb := ha.bd
  have q := buy_in ha hh (show g < 4 by omega) b
  unfold cst1
  split
  · rename_i t ht
    exact Nat.mul_le_mul q.2.1 (stt_in ha (q.1 t ht).1 _).2.2.2
  · exact Nat.zero_le _
theorem cst_in {a : Ld} (ha : LdOk a) {h b p : Nat} (hh : h < nHo a) : cst a h b p ≤ 395604 := by
  have hb := ha.bd
  have := sumN_le (f := cst1 a h b p) (n := nGr a) (fun g hg => cst1_in ha hh hg)
  unfold cst
  omega
theorem tru1_in {a : Ld} (ha : LdOk a) {h m g : Nat} (hh : h < nHo a) (hg : g < nGr a) : tru1 a h m g ≤ 98901 := by
  have hb := ha.bd
  have hw := (ha.hw hh).2.2 g (by omega)
  unfold tru1
  split
  · exact Nat.zero_le _
  · split
    · rename_i b hbs
      exact (best_in ha hw hbs).2.2.2.2
    · exact Nat.zero_le _
theorem tru_in {a : Ld} (ha : LdOk a) {h m : Nat} (hh : h < nHo a) : tru a h m ≤ 395604 := by
  have hb := ha.bd
  have := sumN_le (f := tru1 a h m) (n := nGr a) (fun g hg => tru1_in ha hh hg)
  unfold tru
  omega
theorem mis1_in {a : Ld} (ha : LdOk a) {h m g : Nat} (hh : h < nHo a) (hg : g < nGr a) : mis1 a h m g ≤ 9900 := by
  have hb := ha.bd
  have hw := (ha.hw hh).2.2 g (by omega)
  unfold mis1
  omega
theorem allP_in {a : Ld} (ha : LdOk a) {t m : Nat} (ht : t < nTh a) : allP a t m ≤ 297 := by
  have hb := ha.bd
  have hg := ha.tg ht
  have := sumN_le (f := fun h => pcO a h t m) (b := 99) (n := nHo a) (fun h hh => by
    show pcO a h t m ≤ 99
    unfold pcO
    split
    · exact (buy_in ha hh (by omega) m).2.1
    · exact Nat.zero_le _)
  unfold allP
  omega
theorem cnt_in {a : Ld} (ha : LdOk a) {o t m : Nat} (ht : t < nTh a) : cnt a o t m ≤ 296703 := by
  unfold cnt
  have h1 := allP_in ha (m := m) ht
  split
  · exact Nat.mul_le_mul h1 (stt_in ha ht m).1.2
  · omega
theorem seP_in {a : Ld} (ha : LdOk a) {o t m : Nat} (ht : t < nTh a) : seP a o t m ≤ 99900 := by
  unfold seP
  obtain ⟨h1, -, h3⟩ := stt_in ha ht m
  split
  · apply Nat.le_of_lt_succ
    rw [Nat.div_lt_iff_lt_mul (by omega)]
    omega
  · omega
theorem neaK_in {a : Ld} (ha : LdOk a) {t m : Nat} (ht : t < nTh a) : ∀ (n : Nat), n ≤ nTh a → ∀ b, neaK a t m n = some b → b.1 < n ∧ tG a b.1 = tG a t ∧ Tr a b.1 m = true ∧ b.2 ≤ 999
  | 0, _, b, h => by cases h
  | n + 1, hn, b, h => by
    unfold neaK at h
    have ih := neaK_in ha (m := m) ht n (by omega)
    have h1 := (stt_in ha (show n < nTh a by omega) m).1
    have h2 := (stt_in ha ht (lst a t m)).1
    have hp : dif (Sz a n m) (Sz a t (lst a t m)) ≤ 999 := by unfold dif; omega
    split at h
    · rename_i hc
      cases hb : neaK a t m n with
      | none =>
        rw [hb] at h
        cases h
        exact ⟨by omega, hc.1, hc.2, hp⟩
      | some b' =>
        rw [hb] at h
        have ih := ih b' hb
        simp only at h
        split at h
        · cases h
          exact ⟨by omega, hc.1, hc.2, hp⟩
        · cases h
          exact ⟨by omega, ih.2⟩
    · have ih := ih b h
      exact ⟨by omega, ih.2⟩
theorem sIn1_in {a : Ld} (ha : LdOk a) {o t m : Nat} (ht : t < nTh a) : sIn1 a o t m < nTh a := by
  unfold sIn1
  split
  · exact ht
  · split
    · exact ht
    · rename_i b hb
      exact (neaK_in ha ht (nTh a) (Nat.le_refl _) b hb).1
theorem pTh_in {a : Ld} (ha : LdOk a) {o li m t : Nat} (ht : t < nTh a) : pTh a o li m t ≤ 296703 * 99900 := by
  unfold pTh
  split
  · exact Nat.zero_le _
  · exact Nat.mul_le_mul (cnt_in ha ht) (seP_in ha (sIn1_in ha ht))
theorem pOw_in {a : Ld} (ha : LdOk a) {o li m t : Nat} (ht : t < nTh a) : pOw a o li m t ≤ 296703 * 99900 := by
  unfold pOw
  split
  · exact Nat.zero_le _
  · exact Nat.mul_le_mul (cnt_in ha ht) (seP_in ha ht)
theorem sumT_in {a : Ld} (ha : LdOk a) {o li m n : Nat} (hn : n ≤ nTh a) : sumN (pTh a o li m) n ≤ 237125037600 := by
  have hb := ha.bd
  have := sumN_le (f := pTh a o li m) (n := n) (fun t ht => pTh_in ha (by omega))
  have h8 : n * (296703 * 99900) ≤ 8 * (296703 * 99900) := Nat.mul_le_mul_right _ (by omega)
  omega
theorem sumO_in {a : Ld} (ha : LdOk a) {o li m n : Nat} (hn : n ≤ nTh a) : sumN (pOw a o li m) n ≤ 237125037600 := by
  have hb := ha.bd
  have := sumN_le (f := pOw a o li m) (n := n) (fun t ht => pOw_in ha (by omega))
  have h8 : n * (296703 * 99900) ≤ 8 * (296703 * 99900) := Nat.mul_le_mul_right _ (by omega)
  omega
theorem num_in (a : Ld) (o : Nat) : ∀ m, num a o m ≤ 1000000
  | 0 => by unfold num; omega
  | m + 1 => by
    unfold num
    have ih := num_in a o m
    split
    · split
      · exact ih
      · omega
    · exact rat_le _ _
theorem lst_tr {a : Ld} {t m : Nat} (h : Tr a t m = true) : lst a t m = m := by
  cases m with
  | zero => rfl
  | succ m => unfold lst; rw [if_pos h]
