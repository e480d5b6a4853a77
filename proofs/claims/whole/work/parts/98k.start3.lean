/-! the start: G, the tables' facts, the heap -/
theorem ks_ok : ax_ks.all (fun q => decide (q.1 = 12 ∧ sIx q.2.2.1 = q.2.1 ∧ 7 ≤ q.2.2.1 ∧ q.2.2.1 < 35)) = true := by decide +kernel
theorem ks_w {q : Nat × Nat × Nat × String} (h : q ∈ ax_ks) : ax_ws q ∈ lw_tbl := by
  obtain ⟨j, hj⟩ := List.mem_iff_getElem?.mp h
  exact ax_of_all ax_ks_ok ax_ksl hj
theorem rd_ls : ∀ k, k < 5 → Cond.laysStatic "BiscuitLess$Reader" (wN (1 + k)) "[J" ∈ lw_tbl := by decide +kernel
theorem rd_in : Cond.initialized "BiscuitLess$Reader" ∈ lw_tbl := by decide +kernel
theorem cs_ls : Cond.laysStatic "java/lang/String" "COMPACT_STRINGS" "Z" ∈ lw_tbl := by decide +kernel
theorem cs_in : Cond.initialized "java/lang/String" ∈ lw_tbl := by decide +kernel
theorem fm_ls : Cond.laysStatic "jdk/internal/util/Preconditions" "SIOOBE_FORMATTER" "Ljava/util/function/BiFunction;" ∈ lw_tbl := by decide +kernel
theorem fm_in : Cond.initialized "jdk/internal/util/Preconditions" ∈ lw_tbl := by decide +kernel
theorem cs_eq : fl0[43]? = some (Cond.eq (.static "java/lang/String" "COMPACT_STRINGS" "Z") (.int 1)) := by decide +kernel
theorem fm_eq : fl0[44]? = some (Cond.isRef (.static "jdk/internal/util/Preconditions" "SIOOBE_FORMATTER" "Ljava/util/function/BiFunction;")) := by decide +kernel
def Cf (b : Nat) (T : Nat → Nat) (S : Nat → Nat × Nat) (a : Nat) : Nat := if a = 0 then b else if a < 6 then T a else if a = 6 then b else if a < 35 then (S a).1 else if a < 63 then (S (a - 28)).2 else b
theorem ax_start {s : State} {b L : Nat} {xs : Nat → Int32} (hL : L ≤ 3072) (hts : ∀ w ∈ lw_tbl, w.before #[Value.ref b] s = true) (hX : va_X b L xs s s.heap) (hb : b < s.heap.size) (hgv : (Jvm.Cond.and given_1 narrow_1).before #[Value.ref b] s = true) : ∃ G : ax_G, ax_KK G s ∧ ax_0 G = g0 L xs ∧ ax_Hb G = s.heap ∧ ax_B G = s.heap.size ∧ ax_C G 0 = b := by
  have fl : ∀ w ∈ fl0, w.before #[Value.ref b] s = true := flat_of_before _ hgv
  have hA : ∀ a : Nat, a < s.heap.size → ¬ s.heap.size ≤ a := fun a h => by omega
  obtain ⟨D, hD⟩ := Classical.axiomOfChoice (hDs hts)
  obtain ⟨Y, hY⟩ := Classical.axiomOfChoice (hYs hts)
  obtain ⟨S, hS⟩ := Classical.axiomOfChoice (hSs fl)
  obtain ⟨T, hT⟩ := Classical.axiomOfChoice (hWs fl)
  have hF : ∃ F : Option Nat, va_Z "jdk/internal/util/Preconditions" "SIOOBE_FORMATTER" "Ljava/util/function/BiFunction;" (va_rf F) (fun a => s.heap.size ≤ a) s s.heap := by
    rcases va_Zqof (A := fun a => s.heap.size ≤ a) (hts _ fm_ls) (hts _ fm_in) (fl _ (List.mem_of_getElem? fm_eq)) hA with h | ⟨t, h⟩
    · exact ⟨none, h⟩
    · exact ⟨some t, h⟩
  obtain ⟨F, hF⟩ := hF
  have C0 : Cf b T S 0 = b := rfl
  have Cw : ∀ a, 1 ≤ a → a < 6 → Cf b T S a = T a := fun a h1 h2 => by unfold Cf; rw [if_neg (by omega), if_pos h2]
  have Cs : ∀ a, 7 ≤ a → a < 35 → Cf b T S a = (S a).1 := fun a h1 h2 => by unfold Cf; rw [if_neg (by omega), if_neg (by omega), if_neg (by omega), if_pos h2]
  have Cb : ∀ a, 35 ≤ a → a < 63 → Cf b T S a = (S (a - 28)).2 := fun a h1 h2 => by unfold Cf; rw [if_neg (by omega), if_neg (by omega), if_neg (by omega), if_neg (by omega), if_pos h2]
  have Cz : ∀ a, a = 6 ∨ 63 ≤ a → Cf b T S a = b := fun a h => by
    unfold Cf
    rcases h with h | h
    · rw [if_neg (by omega), if_neg (by omega), if_pos h]
    · rw [if_neg (by omega), if_neg (by omega), if_neg (by omega), if_neg (by omega), if_neg (by omega)]
  have tlt : ∀ {ty : FieldType} {t N : Nat} {f : Nat → Value}, va_T ty t N f (fun a => s.heap.size ≤ a) s s.heap → t < s.heap.size := fun h => by
    obtain ⟨cell, h1, -⟩ := h
    exact (Array.getElem?_eq_some_iff.mp h1).1
  refine ⟨((fun c => (D c).1, fun c => (D c).2), Y, s.heap.size, Cf b T S, s.heap, F, g0 L xs), ⟨hD, hY, fun w hw hn => ?_, fun q hq => ?_, fun k hk => ?_, fun a ha => ?_, fun k h1 h2 c hc e => ?_, rfl, rfl⟩, rfl, rfl, rfl, C0⟩
  · have q := hts w hw
    cases w with
    | arrayOver t => cases t <;> first | exact over_moved (Vm.Alike.refl _) q | (exfalso; revert hn; simp [ax_isN])
    | methodLinkNest => exact va_Nw.of rfl q
    | fieldLinkNest => exact va_Nw.of rfl q
    | _ => exfalso; revert hn; simp [ax_isN]
  · have o := of_decide_eq_true (List.all_eq_true.mp ks_ok q hq)
    have w := hts _ (ks_w hq)
    obtain ⟨q1, q2, q3, q4⟩ := q
    obtain ⟨rfl, e, h1, h2⟩ : q1 = 12 ∧ sIx q3 = q2 ∧ 7 ≤ q3 ∧ q3 < 35 := o
    show vk_R (ax_cn.getD 12 "") q2 q4 (Cf b T S q3) s
    rw [Cs q3 h1 h2]
    have ev := (hS q3 h1 h2).1
    unfold sTm at ev
    rw [e] at ev
    exact vk_R.of w ev
  · have kw : ∀ j, j < 5 → va_Z "BiscuitLess$Reader" (wN (1 + j)) "[J" (.ref (T (1 + j))) (fun a => s.heap.size ≤ a) s s.heap := fun j hj => va_Zref (hts _ (rd_ls j hj)) (hts _ rd_in) (hT (1 + j) (by omega) (by omega)).1 hA
    by_cases e0 : k = 0
    · subst e0; exact kw 0 (by omega)
    by_cases e1 : k = 1
    · subst e1; exact kw 1 (by omega)
    by_cases e2 : k = 2
    · subst e2; exact kw 2 (by omega)
    by_cases e3 : k = 3
    · subst e3; exact kw 3 (by omega)
    by_cases e4 : k = 4
    · subst e4; exact kw 4 (by omega)
    by_cases e5 : k = 5
    · subst e5
      exact va_Zof (hts _ cs_ls) (hts _ cs_in) (va_eqt (fl _ (List.mem_of_getElem? cs_eq))) hA
    · have e6 : k = 6 := by omega
      subst e6
      exact hF
  · show Cf b T S a < s.heap.size ∧ _
    by_cases e0 : a = 0
    · subst e0
      refine ⟨hb, (fun q => absurd q (by show ¬ (21 = 13); omega)), fun _ _ => ?_, Or.inr (Or.inl ⟨by show 20 ≤ 21; omega, by show 21 ≤ 22; omega⟩)⟩
      obtain ⟨scr, h1, h2, h3, h4, h5⟩ := hX
      exact ⟨scr, h1, h2, h3, by show L ≤ _; omega, by show _ = Int32.ofNat L; rw [h4], h5, hA b hb⟩
    by_cases e1 : a < 6
    · have t := (hT a (by omega) e1).2
      have kk : mK (g0 L xs) a = 22 := by show (g0K L a).1 = 22; rw [g0K_w (by omega) e1]
      have zz : mZ (g0 L xs) a = wC a := by show (g0K L a).2 = _; rw [g0K_w (by omega) e1]
      rw [Cw a (by omega) e1]
      refine ⟨tlt t, fun q => ?_, fun _ _ => ?_, Or.inr (Or.inl ⟨?_, ?_⟩)⟩
      · have q : mK (g0 L xs) a = 13 := q
        omega
      · show va_T (ax_aT (mK (g0 L xs) a)) (Cf b T S a) (mZ (g0 L xs) a) (fun j => ax_av _ (g0 L xs) (mK (g0 L xs) a) a j) _ s s.heap
        rw [kk, zz, Cw a (by omega) e1]
        have ef : (fun j => ax_av ((fun c => (D c).1, fun c => (D c).2), Y, s.heap.size, Cf b T S, s.heap, F, g0 L xs) (g0 L xs) 22 a j) = fun j => Value.long (wV a j) := by
          funext j
          show Value.long (if 1 ≤ a ∧ a < 6 then wV a j else 0) = _
          rw [if_pos (by omega)]
        rw [ef]
        exact t
      · show 20 ≤ mK (g0 L xs) a; omega
      · show mK (g0 L xs) a ≤ 22; omega
    by_cases e2 : a = 6 ∨ 63 ≤ a
    · have kk : mK (g0 L xs) a = 99 := by show (g0K L a).1 = 99; rw [g0K_z e2]
      rw [Cz a e2]
      refine ⟨hb, fun q => ?_, fun _ q => ?_, Or.inr (Or.inr kk)⟩
      · have q : mK (g0 L xs) a = 13 := q
        omega
      · have q : mK (g0 L xs) a ≤ 22 := q
        omega
    by_cases e3 : a < 35
    · obtain ⟨-, h1, h2, h3, h4⟩ := hS a (by omega) e3
      have kk : mK (g0 L xs) a = 13 := by show (g0K L a).1 = 13; rw [g0K_s (by omega) e3]
      rw [Cs a (by omega) e3]
      refine ⟨?_, fun _ => ⟨?_, ?_, ?_⟩, fun q => ?_, Or.inl kk⟩
      · obtain ⟨cell, q1, -⟩ := h1
        exact (Array.getElem?_eq_some_iff.mp q1).1
      · show va_O _ (Cf b T S a) _ s s.heap
        rw [Cs a (by omega) e3]; exact h1
      · show va_OF _ _ _ (.int (if a = 0 then xs 1 else if 35 ≤ a ∧ a < 63 then _ else 0)) (Cf b T S a) _ s s.heap
        rw [Cs a (by omega) e3, if_neg (by omega), if_neg (by omega)]; exact h2
      · show va_OF _ _ _ (va_rf (ax_ao _ (if 7 ≤ a ∧ a < 35 ∧ 0 = 0 then some (a + 28) else none))) (Cf b T S a) _ s s.heap
        rw [Cs a (by omega) e3, if_pos ⟨by omega, e3, rfl⟩]
        show va_OF _ _ _ (va_rf (if a + 28 = 6 then F else some (if a + 28 < 64 then Cf b T S (a + 28) else _))) (S a).1 _ s s.heap
        rw [if_neg (by omega), if_pos (by omega), Cb (a + 28) (by omega) (by omega), Nat.add_sub_cancel]
        exact h3
      · have q : 20 ≤ mK (g0 L xs) a := q
        omega
    · obtain ⟨-, h1, h2, h3, h4⟩ := hS (a - 28) (by omega) (by omega)
      have kk : mK (g0 L xs) a = 20 := by show (g0K L a).1 = 20; rw [g0K_b (by omega) (by omega)]
      have zz : mZ (g0 L xs) a = (sW (a - 28)).length := by show (g0K L a).2 = _; rw [g0K_b (by omega) (by omega)]
      rw [Cb a (by omega) (by omega)]
      refine ⟨tlt h4, fun q => ?_, fun _ _ => ?_, Or.inr (Or.inl ⟨?_, ?_⟩)⟩
      · have q : mK (g0 L xs) a = 13 := q
        omega
      · show va_T (ax_aT (mK (g0 L xs) a)) (Cf b T S a) (mZ (g0 L xs) a) (fun j => ax_av _ (g0 L xs) (mK (g0 L xs) a) a j) _ s s.heap
        rw [kk, zz, Cb a (by omega) (by omega)]
        have ef : (fun j => ax_av ((fun c => (D c).1, fun c => (D c).2), Y, s.heap.size, Cf b T S, s.heap, F, g0 L xs) (g0 L xs) 20 a j) = fun j => Value.int ((sBy (a - 28)).getD j 0) := by
          funext j
          show Value.int (if a = 0 then xs j else if 35 ≤ a ∧ a < 63 then (sBy (a - 28)).getD j 0 else 0) = _
          rw [if_neg (by omega), if_pos (by omega)]
        rw [ef]
        exact h4
      · show 20 ≤ mK (g0 L xs) a; omega
      · show mK (g0 L xs) a ≤ 22; omega
  · have w : (Cond.arrayOver (ax_aT k)).before #[Value.ref b] s = true := by
      by_cases e4 : k = 24
      · subst e4; exact hts _ ao24
      by_cases e5 : k = 25
      · subst e5; exact hts _ ao25
      by_cases e6 : k = 26
      · subst e6; exact hts _ ao26
      · have e7 : k = 27 := by omega
        subst e7; exact hts _ ao27
    rw [e] at w
    exact va_AO.of w
theorem g0_Hd {G : ax_G} {s : State} {L : Nat} {xs : Nat → Int32} (h0 : ax_0 G = g0 L xs) (hH : ax_Hb G = s.heap) (hB : ax_B G = s.heap.size) : ax_Hd G (g0 L xs) s.heap := by
  have kz : ∀ a, 64 ≤ a → mK (g0 L xs) a = 99 := fun a ha => by show (g0K L a).1 = 99; rw [g0K_z (by omega)]
  refine ⟨by show 64 ≤ 64; omega, by rw [hB]; rfl, fun q _ => by rw [hH], fun a ha => kz a ha, fun a ha => ⟨fun q => ?_, fun _ q => ?_, ?_⟩, fun a ha => ?_⟩
  · rw [kz a ha] at q; omega
  · rw [kz a ha] at q; omega
  · rw [kz a ha]; omega
  · rw [h0]
    exact ⟨rfl, fun _ => rfl, fun _ => rfl, fun _ => rfl⟩
