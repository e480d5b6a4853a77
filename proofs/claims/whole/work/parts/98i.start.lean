/-! the start: the constants' addresses, the memory before the law -/
def sIx (k : Nat) : Nat := [121, 123, 125, 127, 129, 131, 133, 135, 206, 211, 216, 218, 231, 233, 235, 237, 239, 241, 257, 259, 261, 269, 271, 273, 279, 281, 283, 285].getD (k - 7) 0
def sTm (k : Nat) : Term := .string "BiscuitLessModel" (sIx k)
def sVl (k : Nat) : Term := .field (sTm k) "java/lang/String" "value" "[B"
def sBy (k : Nat) : List Int32 := (List.range (sW k).length).map (fun j => nI ((sW k).getD ((sW k).length - 1 - j) 0))
def sWd (k : Nat) : List Cond := [.exactly (sTm k) "java/lang/String", .eq (.field (sTm k) "java/lang/String" "coder" "B") (.int 0), .arrayOf (sVl k) .byte, .eq (.length (sVl k)) (.int (Int32.ofNat (sW k).length))] ++ (List.range (sW k).length).map (fun j => .eq (.elem (sVl k) (.int (Int32.ofNat j))) (.int ((sBy k).getD j 0)))
def wN (a : Nat) : String := ["", "NO_NAMES", "HOW_WORDS", "MISSING_WORDS", "SEES_WORDS", "BASKET_WORDS"].getD a ""
def wC (a : Nat) : Nat := [0, 8, 7, 3, 2, 2].getD a 0
def wA (a j : Nat) : List Nat := match a with
  | 1 => sW (7 + j)
  | 2 => wHow j
  | 3 => wMis j
  | 4 => wSee j
  | _ => wBas j
def wT (a : Nat) : Term := .static "BiscuitLess$Reader" (wN a) "[J"
def wV (a j : Nat) : Int64 := lN (cdB 256 0 (wA a j))
def wWd (a : Nat) : List Cond := [.arrayOf (wT a) .long, .eq (.length (wT a)) (.int (Int32.ofNat (wC a)))] ++ (List.range (wC a)).map (fun j => .eq (.elem (wT a) (.int (Int32.ofNat j))) (.long (wV a j)))
def fl0 : List Cond := flatC (Jvm.Cond.and given_1 narrow_1)
theorem sWd_in : fl0.drop 78 = (List.range 28).flatMap (fun k => sWd (7 + k)) := by decide +kernel
theorem wWd_in : (fl0.drop 4).take 37 = (List.range 5).flatMap (fun a => Cond.isRef (wT (1 + a)) :: wWd (1 + a)) := by decide +kernel
theorem sWd_at {k : Nat} (h1 : 7 ≤ k) (h2 : k < 35) {w : Cond} (hw : w ∈ sWd k) : w ∈ fl0 := by
  refine List.mem_of_mem_drop (i := 78) ?_
  rw [sWd_in]
  exact List.mem_flatMap.mpr ⟨k - 7, List.mem_range.mpr (by omega), by rw [show 7 + (k - 7) = k by omega]; exact hw⟩
theorem wWd_at {k : Nat} (h1 : 1 ≤ k) (h2 : k < 6) {w : Cond} (hw : w ∈ wWd k) : w ∈ fl0 := by
  refine List.mem_of_mem_drop (i := 4) (List.mem_of_mem_take (i := 37) ?_)
  rw [wWd_in]
  exact List.mem_flatMap.mpr ⟨k - 1, List.mem_range.mpr (by omega), by rw [show 1 + (k - 1) = k by omega]; exact List.mem_cons_of_mem _ hw⟩
theorem okWs : ((List.range 28).all fun k => decide ((sW (7 + k)).length ≤ 8) && (sW (7 + k)).all fun b => decide (97 ≤ b ∧ b ≤ 122)) = true := by decide +kernel
theorem okW_at {k : Nat} (h1 : 7 ≤ k) (h2 : k < 35) : okW (sW k) := by
  have q := List.all_eq_true.mp okWs (k - 7) (List.mem_range.mpr (by omega))
  rw [show 7 + (k - 7) = k by omega, Bool.and_eq_true] at q
  exact ⟨of_decide_eq_true q.1, fun b hb => of_decide_eq_true (List.all_eq_true.mp q.2 b hb)⟩
def g0K (L a : Nat) : Nat × Nat := if a = 0 then (21, L) else if a < 6 then (22, wC a) else if a = 6 then (99, 0) else if a < 35 then (13, 0) else if a < 63 then (20, (sW (a - 28)).length) else (99, 0)
def g0I (xs : Nat → Int32) (a j : Nat) : Int32 := if a = 0 then xs j else if 35 ≤ a ∧ a < 63 then (sBy (a - 28)).getD j 0 else 0
def g0L (a j : Nat) : Int64 := if 1 ≤ a ∧ a < 6 then wV a j else 0
def g0R (a j : Nat) : Option Nat := if 7 ≤ a ∧ a < 35 ∧ j = 0 then some (a + 28) else none
def g0 (L : Nat) (xs : Nat → Int32) : ax_M := (64, g0K L, g0I xs, g0L, g0R)
theorem g0K_s {L a : Nat} (h1 : 7 ≤ a) (h2 : a < 35) : g0K L a = (13, 0) := by
  unfold g0K
  rw [if_neg (by omega), if_neg (by omega), if_neg (by omega), if_pos h2]
theorem g0K_b {L a : Nat} (h1 : 35 ≤ a) (h2 : a < 63) : g0K L a = (20, (sW (a - 28)).length) := by
  unfold g0K
  rw [if_neg (by omega), if_neg (by omega), if_neg (by omega), if_neg (by omega), if_pos h2]
theorem g0K_w {L a : Nat} (h1 : 1 ≤ a) (h2 : a < 6) : g0K L a = (22, wC a) := by
  unfold g0K
  rw [if_neg (by omega), if_pos h2]
theorem g0K_z {L a : Nat} (h : a = 6 ∨ 63 ≤ a) : g0K L a = (99, 0) := by
  unfold g0K
  rcases h with h | h
  · rw [if_neg (by omega), if_neg (by omega), if_pos h]
  · rw [if_neg (by omega), if_neg (by omega), if_neg (by omega), if_neg (by omega), if_neg (by omega)]
theorem g0_GC {G : ax_G} {L : Nat} {xs : Nat → Int32} (h : ax_0 G = g0 L xs) : GC G := by
  unfold GC
  rw [h]
  refine ⟨⟨⟨rfl, rfl, by omega, fun i hi => ⟨rfl, okW_at (by omega) (by omega)⟩⟩, ⟨rfl, rfl, by omega, fun i hi => ⟨rfl, ?_⟩⟩, ⟨rfl, rfl, by omega, fun i hi => ⟨rfl, okW_at (by omega) (by omega)⟩⟩, ⟨rfl, rfl, by omega, fun i hi => ⟨rfl, okW_at (by omega) (by omega)⟩⟩, ⟨rfl, rfl, by omega, fun i hi => ⟨rfl, okW_at (by omega) (by omega)⟩⟩⟩, fun k h1 h2 => ?_⟩
  · unfold wHow
    split
    · exact okW_at (by omega) (by omega)
    · exact okW_at (by omega) (by omega)
  · refine ⟨?_, ?_, ?_, ?_, ?_, okW_at h1 h2, fun j hj => ?_⟩
    · show (g0K L k).1 = 13
      rw [g0K_s h1 h2]
    · show (if 7 ≤ k ∧ k < 35 ∧ 0 = 0 then some (k + 28) else none) = _
      rw [if_pos ⟨h1, h2, rfl⟩]
    · show (if k = 0 then xs 1 else if 35 ≤ k ∧ k < 63 then _ else 0) = _
      rw [if_neg (by omega), if_neg (by omega)]
      exact q0
    · show (g0K L (k + 28)).1 = 20
      rw [g0K_b (by omega) (by omega)]
    · show (g0K L (k + 28)).2 = _
      rw [g0K_b (by omega) (by omega), Nat.add_sub_cancel]
    · show (if k + 28 = 0 then xs j else if 35 ≤ k + 28 ∧ k + 28 < 63 then (sBy (k + 28 - 28)).getD j 0 else 0) = _
      rw [if_neg (by omega), if_pos (by omega), Nat.add_sub_cancel]
      unfold sBy
      rw [List.getD_eq_getElem?_getD, List.getElem?_map, List.getElem?_range hj]
      rfl
