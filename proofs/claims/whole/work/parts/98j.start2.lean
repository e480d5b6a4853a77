/-! the start: the tables' facts -/
section ST
variable {s : State} {args : Array Value}
theorem arrP {ty : FieldType} (h : (Cond.arrayClass ty).before args s = true) : ∃ y : ClassId, ArrOfT s y ty ∧ s.vm.findClass ("[" ++ ty.toString) = some y := by
  obtain ⟨c, k, comp, h1, h2, h3⟩ := Cond.arrayClass_spec h
  exact ⟨c, fun n z => ⟨(fun k h => by cases h), k, h2, comp, h3⟩, h1⟩
theorem arrO {C : String} (h : (Cond.arrayOver (.object C)).before args s = true) : ∃ y : ClassId, ArrOfT s y (.object C) ∧ va_RA s y (.object C) := by
  obtain ⟨comp, c, k, h1, h2, h3, h4, h5⟩ := Cond.arrayOver_spec h
  exact ⟨c, fun n z => ⟨(fun k h => by cases h), k, h3, comp, h4⟩, k, comp, h3, h4, h1, h5⟩
theorem arrA {t : FieldType} (h : (Cond.arrayOver (.array t)).before args s = true) : ∃ y : ClassId, ArrOfT s y (.array t) ∧ s.vm.findClass ("[" ++ (FieldType.array t).toString) = some y := by
  obtain ⟨comp, c, k, h1, h2, h3, h4, h5⟩ := arrayOverA_spec h
  exact ⟨c, fun n z => ⟨(fun k h => by cases h), k, h3, comp, h4⟩, h5⟩
theorem ao24 : Cond.arrayOver (.object "BiscuitLess$Change") ∈ lw_tbl := by decide +kernel
theorem ao25 : Cond.arrayOver (.object "BiscuitLess$House") ∈ lw_tbl := by decide +kernel
theorem ao26 : Cond.arrayOver (.object "BiscuitLess$Office") ∈ lw_tbl := by decide +kernel
theorem ao27 : Cond.arrayOver (.object "BiscuitLess$Thing") ∈ lw_tbl := by decide +kernel
theorem gw_t {w : Cond} (h : w ∈ ax_gw) : w ∈ lw_tbl := (List.mem_filter.mp h).1
theorem hYs (hts : ∀ w ∈ lw_tbl, w.before args s = true) (k : Nat) : ∃ y : ClassId, 20 ≤ k → k ≤ 28 → ArrOfT s y (ax_aT k) ∧ va_RA s y (ax_aT k) := by
  by_cases e0 : k = 20
  · subst e0; obtain ⟨y, a, b⟩ := arrP (hts _ (gw_t ax_ac20)); exact ⟨y, fun _ _ => ⟨a, b⟩⟩
  by_cases e1 : k = 21
  · subst e1; obtain ⟨y, a, b⟩ := arrP (hts _ (gw_t ax_ac21)); exact ⟨y, fun _ _ => ⟨a, b⟩⟩
  by_cases e2 : k = 22
  · subst e2; obtain ⟨y, a, b⟩ := arrP (hts _ (gw_t ax_ac22)); exact ⟨y, fun _ _ => ⟨a, b⟩⟩
  by_cases e3 : k = 23
  · subst e3; obtain ⟨y, a, b⟩ := arrP (hts _ (gw_t ax_ac23)); exact ⟨y, fun _ _ => ⟨a, b⟩⟩
  by_cases e4 : k = 24
  · subst e4; obtain ⟨y, a, b⟩ := arrO (hts _ ao24); exact ⟨y, fun _ _ => ⟨a, b⟩⟩
  by_cases e5 : k = 25
  · subst e5; obtain ⟨y, a, b⟩ := arrO (hts _ ao25); exact ⟨y, fun _ _ => ⟨a, b⟩⟩
  by_cases e6 : k = 26
  · subst e6; obtain ⟨y, a, b⟩ := arrO (hts _ ao26); exact ⟨y, fun _ _ => ⟨a, b⟩⟩
  by_cases e7 : k = 27
  · subst e7; obtain ⟨y, a, b⟩ := arrO (hts _ ao27); exact ⟨y, fun _ _ => ⟨a, b⟩⟩
  by_cases e8 : k = 28
  · subst e8; obtain ⟨y, a, b⟩ := arrA (hts _ ax_aoi); exact ⟨y, fun _ _ => ⟨a, b⟩⟩
  · exact ⟨0, fun h1 h2 => absurd h1 (by omega)⟩
theorem hDs (hts : ∀ w ∈ lw_tbl, w.before args s = true) (c : Nat) : ∃ q : ClassId × (Nat → Nat), c < 13 → u_Kn s (ax_Cn c) (ax_Tb c) (ax_nf c) q.1 q.2 := by
  by_cases hc : c < 13
  · obtain ⟨cC, iS, h⟩ := u_known (ws := lw_tbl) (T := ax_Tb c) (N := ax_nf c) hts (fun w hw => gw_t (ax_cls_lay hc w hw)) (hts _ (gw_t (ax_cls_new hc).1))
    exact ⟨(cC, iS), fun _ => h⟩
  · exact ⟨(0, fun _ => 0), fun h => absurd h hc⟩
/-- what is known of a text constant -/
def Sk (s : State) (args : Array Value) (k : Nat) (q : Nat × Nat) : Prop := (sTm k).eval args s none [] s = some (.ref q.1) ∧ va_O "java/lang/String" q.1 (fun a => s.heap.size ≤ a) s s.heap ∧ va_OF "java/lang/String" "coder" "B" (.int 0) q.1 (fun a => s.heap.size ≤ a) s s.heap ∧ va_OF "java/lang/String" "value" "[B" (.ref q.2) q.1 (fun a => s.heap.size ≤ a) s s.heap ∧ va_T .byte q.2 (sW k).length (fun j => .int ((sBy k).getD j 0)) (fun a => s.heap.size ≤ a) s s.heap
theorem hSs (fl : ∀ w ∈ fl0, w.before args s = true) (k : Nat) : ∃ q : Nat × Nat, 7 ≤ k → k < 35 → Sk s args k q := by
  by_cases hk : 7 ≤ k ∧ k < 35
  · have m : ∀ w ∈ sWd k, w.before args s = true := fun w hw => fl w (sWd_at hk.1 hk.2 hw)
    have ok := okW_at hk.1 hk.2
    obtain ⟨adK, adV, h, e⟩ := vk_Sof (args := args) (s := s) (N := 1) (tm := fun _ => sTm k) (len := [(sW k).length]) (byt := [sBy k]) (A := fun a => s.heap.size ≤ a)
      (fun i hi => by have e : i = 0 := by omega
                      subst e; show (sW k).length < 2 ^ 31; have := ok.1; omega)
      (fun i hi => m _ (by unfold sWd; simp)) (fun i hi => m _ (by unfold sWd; simp)) (fun i hi => m _ (by unfold sWd sVl; simp))
      (fun i hi => by have e : i = 0 := by omega
                      subst e; exact m _ (by unfold sWd sVl; simp))
      (fun i hi j hj => by
        have e : i = 0 := by omega
        subst e
        exact m _ (List.mem_append_right _ (List.mem_map.mpr ⟨j, List.mem_range.mpr hj, rfl⟩)))
      (fun i j h1 h2 h3 => absurd (show i = j by omega) h3) (fun a h q => by have q : s.heap.size ≤ a := q; omega)
    obtain ⟨h1, h2, h3, h4⟩ := h.1 0 (by omega)
    exact ⟨(adK 0, adV 0), fun _ _ => ⟨e 0 (by omega), h1, h2, h3, h4⟩⟩
  · exact ⟨(0, 0), fun h1 h2 => absurd ⟨h1, h2⟩ hk⟩
theorem hWs (fl : ∀ w ∈ fl0, w.before args s = true) (a : Nat) : ∃ t : Nat, 1 ≤ a → a < 6 → (wT a).eval args s none [] s = some (.ref t) ∧ va_T .long t (wC a) (fun j => .long (wV a j)) (fun a => s.heap.size ≤ a) s s.heap := by
  by_cases hk : 1 ≤ a ∧ a < 6
  · have m : ∀ w ∈ wWd a, w.before args s = true := fun w hw => fl w (wWd_at hk.1 hk.2 hw)
    have c8 : wC a < 2 ^ 31 := by
      have : ∀ a, a < 6 → wC a < 2 ^ 31 := by decide
      exact this a hk.2
    obtain ⟨t, h1, h2⟩ := va_Tof (args := args) (s := s) (tm := wT a) (ty := .long) (N := wC a) (f := fun j => .long (wV a j)) (A := fun a => s.heap.size ≤ a) c8 (m _ (by unfold wWd; simp)) (va_eqt (m _ (by unfold wWd; simp))) (fun j hj => va_eqtl (m _ (List.mem_append_right _ (List.mem_map.mpr ⟨j, List.mem_range.mpr hj, rfl⟩)))) (fun a h q => by have q : s.heap.size ≤ a := q; omega)
    exact ⟨t, fun _ _ => ⟨h1, h2⟩⟩
  · exact ⟨0, fun h1 h2 => absurd ⟨h1, h2⟩ hk⟩
end ST
