/-! the law's calls: the class answers, the model answers, and they agree -/
section OP
variable {l : Launch} {G : ax_G} {EE : Program → Env → State → MethodId → Array Value → List Frame → Method → Code → State → Prop} {μ : ax_M} {st : St} {n i cl sl : Nat} {f : Nat → Int32}
theorem nJ_1 (i : Nat) : nI i + 1 = nI (i + 1) := by rw [q1, nI_add]
theorem nJ_2 (i : Nat) : nI i + 2 = nI (i + 2) := by rw [q2, nI_add]
theorem nJ_3 (i : Nat) : nI i + 3 = nI (i + 3) := by rw [q3, nI_add]
theorem nJ_4 (i : Nat) : nI i + 4 = nI (i + 4) := by rw [q4, nI_add]
theorem nJ_5 (i : Nat) : nI i + 5 = nI (i + 5) := by rw [q5, nI_add]
theorem nJ_6 (i : Nat) : nI i + 6 = nI (i + 6) := by rw [q6, nI_add]
theorem op176 (hj : LJ μ st n f) (hi : i + 6 ≤ n) (hc : cl + 0 ≤ 601024) (hs : sl + 0 ≤ 7293033) (q : ∀ μ' st', LJ μ' st' n f → ax_Rw l G ax_h249 EE 1466 [(0, ax_r (some 0)), (1, ax_r (some 64)), (2, ax_r (some 332)), (3, ax_r (some 340)), (4, ax_i (nI i))] [] (cl + 0) (sl + 0) μ') : ax_Rw l G ax_h249 EE 176 [(0, ax_r (some 0)), (1, ax_r (some 64)), (2, ax_r (some 332)), (3, ax_r (some 340)), (4, ax_i (nI i))] [] cl sl μ := by
  have hn : n < 2 ^ 31 := hj.2.2.2.2
  refine sg249_176 l G EE 0 (some 64) (some 332) (some 340) (nI i) cl sl μ ?_
  simp only [nJ_1, nJ_2, nJ_3, nJ_4, nJ_5, clN (show i + 1 < 2 ^ 31 by omega), clN (show i + 2 < 2 ^ 31 by omega), clN (show i + 3 < 2 ^ 31 by omega), clN (show i + 4 < 2 ^ 31 by omega), clN (show i + 5 < 2 ^ 31 by omega), hj.1.2.2]
  refine ⟨hj.inn (by omega), hj.inn (by omega), hj.inn (by omega), hj.inn (by omega), hj.inn (by omega), wr_c rfl ⟨hj.k64, ax_gd.mk (by omega) (by omega) (p82 hj.2.1 (fun m2 o2 x2 => ?_))⟩⟩
  have hk := hj.cls o2 x2
  simp only [hk.1.2.2]
  refine ⟨hk.inn (by omega), hk.inn (by omega), hk.inn (by omega), hk.inn (by omega), hk.inn (by omega), wr_c rfl ⟨hk.k332, ax_gd.mk (by omega) (by omega) (m54 hk.2.2.1 (fun m5 o5 x5 => ?_))⟩⟩
  rw [br_T rfl]
  exact q m5 _ (hk.mod o5 x5)
theorem op249 (hG : GC G) (hj : LJ μ st n f) (hi : i + 6 ≤ n) (hc : cl + 18 ≤ 601024) (hs : sl + 222 ≤ 7293033) (q : ∀ μ' st', LJ μ' st' n f → ax_Rw l G ax_h249 EE 1466 [(0, ax_r (some 0)), (1, ax_r (some 64)), (2, ax_r (some 332)), (3, ax_r (some 340)), (4, ax_i (nI i))] [] (cl + 18) (sl + 222) μ') : ax_Rw l G ax_h249 EE 249 [(0, ax_r (some 0)), (1, ax_r (some 64)), (2, ax_r (some 332)), (3, ax_r (some 340)), (4, ax_i (nI i))] [] cl sl μ := by
  have hn : n < 2 ^ 31 := hj.2.2.2.2
  refine sg249_249 l G EE 0 (some 64) (some 332) (some 340) (nI i) cl sl μ ?_
  simp only [nJ_1, nJ_2, nJ_3, nJ_4, nJ_5, clN (show i + 1 < 2 ^ 31 by omega), clN (show i + 2 < 2 ^ 31 by omega), clN (show i + 3 < 2 ^ 31 by omega), clN (show i + 4 < 2 ^ 31 by omega), clN (show i + 5 < 2 ^ 31 by omega), hj.1.2.2]
  refine ⟨hj.inn (by omega), wr_c rfl ⟨hj.k64, ax_gd.mk (by omega) (by omega) (p229 hG hj.2.1 (fun m2 o2 x2 => ?_))⟩⟩
  have hk := hj.cls o2 x2
  simp only [hk.1.2.2]
  refine ⟨hk.inn (by omega), wr_c rfl ⟨hk.k332, ax_gd.mk (by omega) (by omega) (m248 hG hk.2.2.1 hj.2.1.tape (fun m5 o5 x5 => ?_))⟩⟩
  rw [br_T rfl]
  exact q m5 _ (hk.mod o5 x5)
theorem op274 (hj : LJ μ st n f) (hi : i + 6 ≤ n) (hc : cl + 0 ≤ 601024) (hs : sl + 0 ≤ 7293033) (q : ∀ μ' st', LJ μ' st' n f → ax_Rw l G ax_h249 EE 1466 [(0, ax_r (some 0)), (1, ax_r (some 64)), (2, ax_r (some 332)), (3, ax_r (some 340)), (4, ax_i (nI i))] [] (cl + 0) (sl + 0) μ') : ax_Rw l G ax_h249 EE 274 [(0, ax_r (some 0)), (1, ax_r (some 64)), (2, ax_r (some 332)), (3, ax_r (some 340)), (4, ax_i (nI i))] [] cl sl μ := by
  have hn : n < 2 ^ 31 := hj.2.2.2.2
  refine sg249_274 l G EE 0 (some 64) (some 332) (some 340) (nI i) cl sl μ ?_
  refine wr_c rfl ⟨hj.k64, ax_gd.mk (by omega) (by omega) (p2 hj.2.1 ?_)⟩
  have hk := hj.same
  refine wr_c rfl ⟨hk.k332, ax_gd.mk (by omega) (by omega) (m53 hk.2.2.1 (fun m5 o5 x5 => ?_))⟩
  rw [br_T rfl]
  exact q m5 _ (hk.mod o5 x5)
theorem op287 (hj : LJ μ st n f) (hi : i + 6 ≤ n) (hc : cl + 0 ≤ 601024) (hs : sl + 0 ≤ 7293033) (q : ∀ μ' st', LJ μ' st' n f → ax_Rw l G ax_h249 EE 1466 [(0, ax_r (some 0)), (1, ax_r (some 64)), (2, ax_r (some 332)), (3, ax_r (some 340)), (4, ax_i (nI i))] [] (cl + 0) (sl + 0) μ') : ax_Rw l G ax_h249 EE 287 [(0, ax_r (some 0)), (1, ax_r (some 64)), (2, ax_r (some 332)), (3, ax_r (some 340)), (4, ax_i (nI i))] [] cl sl μ := by
  have hn : n < 2 ^ 31 := hj.2.2.2.2
  refine sg249_287 l G EE 0 (some 64) (some 332) (some 340) (nI i) cl sl μ ?_
  refine wr_c rfl ⟨hj.k64, ax_gd.mk (by omega) (by omega) (p9 hj.2.1 ?_)⟩
  have hk := hj.same
  refine wr_c rfl ⟨hk.k332, ax_gd.mk (by omega) (by omega) (m73 hk.2.2.1 (fun m5 o5 x5 => ?_))⟩
  rw [br_T rfl]
  exact q m5 _ (hk.mod o5 x5)
theorem op300 (hj : LJ μ st n f) (hi : i + 6 ≤ n) (hc : cl + 0 ≤ 601024) (hs : sl + 0 ≤ 7293033) (q : ∀ μ' st', LJ μ' st' n f → ax_Rw l G ax_h249 EE 1466 [(0, ax_r (some 0)), (1, ax_r (some 64)), (2, ax_r (some 332)), (3, ax_r (some 340)), (4, ax_i (nI i))] [] (cl + 0) (sl + 0) μ') : ax_Rw l G ax_h249 EE 300 [(0, ax_r (some 0)), (1, ax_r (some 64)), (2, ax_r (some 332)), (3, ax_r (some 340)), (4, ax_i (nI i))] [] cl sl μ := by
  have hn : n < 2 ^ 31 := hj.2.2.2.2
  refine sg249_300 l G EE 0 (some 64) (some 332) (some 340) (nI i) cl sl μ ?_
  simp only [nJ_1, nJ_2, nJ_3, nJ_4, nJ_5, clN (show i + 1 < 2 ^ 31 by omega), clN (show i + 2 < 2 ^ 31 by omega), clN (show i + 3 < 2 ^ 31 by omega), clN (show i + 4 < 2 ^ 31 by omega), clN (show i + 5 < 2 ^ 31 by omega), hj.1.2.2]
  refine ⟨hj.inn (by omega), hj.inn (by omega), hj.inn (by omega), wr_c rfl ⟨hj.k64, ax_gd.mk (by omega) (by omega) (p86 hj.2.1 ?_)⟩⟩
  have hk := hj.same
  simp only [hk.1.2.2]
  refine ⟨hk.inn (by omega), hk.inn (by omega), hk.inn (by omega), wr_c rfl ⟨hk.k332, ax_gd.mk (by omega) (by omega) (m121 hk.2.2.1 (fun m5 o5 x5 => ?_))⟩⟩
  rw [br_T rfl]
  exact q m5 _ (hk.mod o5 x5)
theorem op349 (hj : LJ μ st n f) (hi : i + 6 ≤ n) (hc : cl + 0 ≤ 601024) (hs : sl + 0 ≤ 7293033) (q : ∀ μ' st', LJ μ' st' n f → ax_Rw l G ax_h249 EE 1466 [(0, ax_r (some 0)), (1, ax_r (some 64)), (2, ax_r (some 332)), (3, ax_r (some 340)), (4, ax_i (nI i))] [] (cl + 0) (sl + 0) μ') : ax_Rw l G ax_h249 EE 349 [(0, ax_r (some 0)), (1, ax_r (some 64)), (2, ax_r (some 332)), (3, ax_r (some 340)), (4, ax_i (nI i))] [] cl sl μ := by
  have hn : n < 2 ^ 31 := hj.2.2.2.2
  refine sg249_349 l G EE 0 (some 64) (some 332) (some 340) (nI i) cl sl μ ?_
  simp only [nJ_1, nJ_2, nJ_3, nJ_4, nJ_5, clN (show i + 1 < 2 ^ 31 by omega), clN (show i + 2 < 2 ^ 31 by omega), clN (show i + 3 < 2 ^ 31 by omega), clN (show i + 4 < 2 ^ 31 by omega), clN (show i + 5 < 2 ^ 31 by omega), hj.1.2.2]
  refine ⟨hj.inn (by omega), hj.inn (by omega), hj.inn (by omega), hj.inn (by omega), wr_c rfl ⟨hj.k64, ax_gd.mk (by omega) (by omega) (p81 hj.2.1 (fun m2 o2 x2 => ?_))⟩⟩
  have hk := hj.cls o2 x2
  simp only [hk.1.2.2]
  refine ⟨hk.inn (by omega), hk.inn (by omega), hk.inn (by omega), hk.inn (by omega), wr_c rfl ⟨hk.k332, ax_gd.mk (by omega) (by omega) (m106 hk.2.2.1 (fun m5 o5 x5 => ?_))⟩⟩
  rw [br_T rfl]
  exact q m5 _ (hk.mod o5 x5)
theorem op410 (hj : LJ μ st n f) (hi : i + 6 ≤ n) (hc : cl + 0 ≤ 601024) (hs : sl + 0 ≤ 7293033) (q : ∀ μ' st', LJ μ' st' n f → ax_Rw l G ax_h249 EE 1466 [(0, ax_r (some 0)), (1, ax_r (some 64)), (2, ax_r (some 332)), (3, ax_r (some 340)), (4, ax_i (nI i))] [] (cl + 0) (sl + 0) μ') : ax_Rw l G ax_h249 EE 410 [(0, ax_r (some 0)), (1, ax_r (some 64)), (2, ax_r (some 332)), (3, ax_r (some 340)), (4, ax_i (nI i))] [] cl sl μ := by
  have hn : n < 2 ^ 31 := hj.2.2.2.2
  refine sg249_410 l G EE 0 (some 64) (some 332) (some 340) (nI i) cl sl μ ?_
  simp only [nJ_1, nJ_2, nJ_3, nJ_4, nJ_5, clN (show i + 1 < 2 ^ 31 by omega), clN (show i + 2 < 2 ^ 31 by omega), clN (show i + 3 < 2 ^ 31 by omega), clN (show i + 4 < 2 ^ 31 by omega), clN (show i + 5 < 2 ^ 31 by omega), hj.1.2.2]
  refine ⟨hj.inn (by omega), hj.inn (by omega), wr_c rfl ⟨hj.k64, ax_gd.mk (by omega) (by omega) (p167 hj.2.1 (fun m2 o2 x2 => ?_))⟩⟩
  have hk := hj.cls o2 x2
  simp only [hk.1.2.2]
  refine ⟨hk.inn (by omega), hk.inn (by omega), wr_c rfl ⟨hk.k332, ax_gd.mk (by omega) (by omega) (m158 hk.2.2.1 (fun m5 o5 x5 => ?_))⟩⟩
  rw [br_T rfl]
  exact q m5 _ (hk.mod o5 x5)
theorem op447 (hj : LJ μ st n f) (hi : i + 6 ≤ n) (hc : cl + 0 ≤ 601024) (hs : sl + 0 ≤ 7293033) (q : ∀ μ' st', LJ μ' st' n f → ax_Rw l G ax_h249 EE 1466 [(0, ax_r (some 0)), (1, ax_r (some 64)), (2, ax_r (some 332)), (3, ax_r (some 340)), (4, ax_i (nI i))] [] (cl + 0) (sl + 0) μ') : ax_Rw l G ax_h249 EE 447 [(0, ax_r (some 0)), (1, ax_r (some 64)), (2, ax_r (some 332)), (3, ax_r (some 340)), (4, ax_i (nI i))] [] cl sl μ := by
  have hn : n < 2 ^ 31 := hj.2.2.2.2
  refine sg249_447 l G EE 0 (some 64) (some 332) (some 340) (nI i) cl sl μ ?_
  simp only [nJ_1, nJ_2, nJ_3, nJ_4, nJ_5, clN (show i + 1 < 2 ^ 31 by omega), clN (show i + 2 < 2 ^ 31 by omega), clN (show i + 3 < 2 ^ 31 by omega), clN (show i + 4 < 2 ^ 31 by omega), clN (show i + 5 < 2 ^ 31 by omega), hj.1.2.2]
  refine ⟨hj.inn (by omega), hj.inn (by omega), wr_c rfl ⟨hj.k64, ax_gd.mk (by omega) (by omega) (p127 hj.2.1 (fun m2 o2 x2 => ?_))⟩⟩
  have hk := hj.cls o2 x2
  simp only [hk.1.2.2]
  refine ⟨hk.inn (by omega), hk.inn (by omega), wr_c rfl ⟨hk.k332, ax_gd.mk (by omega) (by omega) (m153 hk.2.2.1 (fun m5 o5 x5 => ?_))⟩⟩
  rw [br_T rfl]
  exact q m5 _ (hk.mod o5 x5)
theorem op484 (hj : LJ μ st n f) (hi : i + 6 ≤ n) (hc : cl + 0 ≤ 601024) (hs : sl + 0 ≤ 7293033) (q : ∀ μ' st', LJ μ' st' n f → ax_Rw l G ax_h249 EE 1466 [(0, ax_r (some 0)), (1, ax_r (some 64)), (2, ax_r (some 332)), (3, ax_r (some 340)), (4, ax_i (nI i))] [] (cl + 0) (sl + 0) μ') : ax_Rw l G ax_h249 EE 484 [(0, ax_r (some 0)), (1, ax_r (some 64)), (2, ax_r (some 332)), (3, ax_r (some 340)), (4, ax_i (nI i))] [] cl sl μ := by
  have hn : n < 2 ^ 31 := hj.2.2.2.2
  refine sg249_484 l G EE 0 (some 64) (some 332) (some 340) (nI i) cl sl μ ?_
  simp only [nJ_1, nJ_2, nJ_3, nJ_4, nJ_5, clN (show i + 1 < 2 ^ 31 by omega), clN (show i + 2 < 2 ^ 31 by omega), clN (show i + 3 < 2 ^ 31 by omega), clN (show i + 4 < 2 ^ 31 by omega), clN (show i + 5 < 2 ^ 31 by omega), hj.1.2.2]
  refine ⟨hj.inn (by omega), hj.inn (by omega), wr_c rfl ⟨hj.k64, ax_gd.mk (by omega) (by omega) (p183 hj.2.1 (fun m2 o2 x2 => ?_))⟩⟩
  have hk := hj.cls o2 x2
  simp only [hk.1.2.2]
  refine ⟨hk.inn (by omega), hk.inn (by omega), wr_c rfl ⟨hk.k332, ax_gd.mk (by omega) (by omega) (m205 hk.2.2.1 (fun m5 o5 x5 => ?_))⟩⟩
  rw [br_T rfl]
  exact q m5 _ (hk.mod o5 x5)
theorem op521 (hj : LJ μ st n f) (hi : i + 6 ≤ n) (hc : cl + 0 ≤ 601024) (hs : sl + 0 ≤ 7293033) (q : ∀ μ' st', LJ μ' st' n f → ax_Rw l G ax_h249 EE 1466 [(0, ax_r (some 0)), (1, ax_r (some 64)), (2, ax_r (some 332)), (3, ax_r (some 340)), (4, ax_i (nI i))] [] (cl + 0) (sl + 0) μ') : ax_Rw l G ax_h249 EE 521 [(0, ax_r (some 0)), (1, ax_r (some 64)), (2, ax_r (some 332)), (3, ax_r (some 340)), (4, ax_i (nI i))] [] cl sl μ := by
  have hn : n < 2 ^ 31 := hj.2.2.2.2
  refine sg249_521 l G EE 0 (some 64) (some 332) (some 340) (nI i) cl sl μ ?_
  simp only [nJ_1, nJ_2, nJ_3, nJ_4, nJ_5, clN (show i + 1 < 2 ^ 31 by omega), clN (show i + 2 < 2 ^ 31 by omega), clN (show i + 3 < 2 ^ 31 by omega), clN (show i + 4 < 2 ^ 31 by omega), clN (show i + 5 < 2 ^ 31 by omega), hj.1.2.2]
  refine ⟨hj.inn (by omega), hj.inn (by omega), wr_c rfl ⟨hj.k64, ax_gd.mk (by omega) (by omega) (p195 hj.2.1 (fun m2 o2 x2 => ?_))⟩⟩
  have hk := hj.cls o2 x2
  simp only [hk.1.2.2]
  refine ⟨hk.inn (by omega), hk.inn (by omega), wr_c rfl ⟨hk.k332, ax_gd.mk (by omega) (by omega) (m220 hk.2.2.1 (fun m5 o5 x5 => ?_))⟩⟩
  rw [br_T rfl]
  exact q m5 _ (hk.mod o5 x5)
theorem op558 (hj : LJ μ st n f) (hi : i + 6 ≤ n) (hc : cl + 0 ≤ 601024) (hs : sl + 0 ≤ 7293033) (q : ∀ μ' st', LJ μ' st' n f → ax_Rw l G ax_h249 EE 1466 [(0, ax_r (some 0)), (1, ax_r (some 64)), (2, ax_r (some 332)), (3, ax_r (some 340)), (4, ax_i (nI i))] [] (cl + 0) (sl + 0) μ') : ax_Rw l G ax_h249 EE 558 [(0, ax_r (some 0)), (1, ax_r (some 64)), (2, ax_r (some 332)), (3, ax_r (some 340)), (4, ax_i (nI i))] [] cl sl μ := by
  have hn : n < 2 ^ 31 := hj.2.2.2.2
  refine sg249_558 l G EE 0 (some 64) (some 332) (some 340) (nI i) cl sl μ ?_
  simp only [nJ_1, nJ_2, nJ_3, nJ_4, nJ_5, clN (show i + 1 < 2 ^ 31 by omega), clN (show i + 2 < 2 ^ 31 by omega), clN (show i + 3 < 2 ^ 31 by omega), clN (show i + 4 < 2 ^ 31 by omega), clN (show i + 5 < 2 ^ 31 by omega), hj.1.2.2]
  refine ⟨hj.inn (by omega), hj.inn (by omega), wr_c rfl ⟨hj.k64, ax_gd.mk (by omega) (by omega) (p128 hj.2.1 (fun m2 o2 x2 => ?_))⟩⟩
  have hk := hj.cls o2 x2
  simp only [hk.1.2.2]
  refine ⟨hk.inn (by omega), hk.inn (by omega), wr_c rfl ⟨hk.k332, ax_gd.mk (by omega) (by omega) (m223 hk.2.2.1 (fun m5 o5 x5 => ?_))⟩⟩
  rw [br_T rfl]
  exact q m5 _ (hk.mod o5 x5)
theorem op595 (hj : LJ μ st n f) (hi : i + 6 ≤ n) (hc : cl + 0 ≤ 601024) (hs : sl + 0 ≤ 7293033) (q : ∀ μ' st', LJ μ' st' n f → ax_Rw l G ax_h249 EE 1466 [(0, ax_r (some 0)), (1, ax_r (some 64)), (2, ax_r (some 332)), (3, ax_r (some 340)), (4, ax_i (nI i))] [] (cl + 0) (sl + 0) μ') : ax_Rw l G ax_h249 EE 595 [(0, ax_r (some 0)), (1, ax_r (some 64)), (2, ax_r (some 332)), (3, ax_r (some 340)), (4, ax_i (nI i))] [] cl sl μ := by
  have hn : n < 2 ^ 31 := hj.2.2.2.2
  refine sg249_595 l G EE 0 (some 64) (some 332) (some 340) (nI i) cl sl μ ?_
  simp only [nJ_1, nJ_2, nJ_3, nJ_4, nJ_5, clN (show i + 1 < 2 ^ 31 by omega), clN (show i + 2 < 2 ^ 31 by omega), clN (show i + 3 < 2 ^ 31 by omega), clN (show i + 4 < 2 ^ 31 by omega), clN (show i + 5 < 2 ^ 31 by omega), hj.1.2.2]
  refine ⟨hj.inn (by omega), hj.inn (by omega), hj.inn (by omega), wr_c rfl ⟨hj.k64, ax_gd.mk (by omega) (by omega) (p163 hj.2.1 (fun m2 o2 x2 => ?_))⟩⟩
  have hk := hj.cls o2 x2
  simp only [hk.1.2.2]
  refine ⟨hk.inn (by omega), hk.inn (by omega), hk.inn (by omega), wr_c rfl ⟨hk.k332, ax_gd.mk (by omega) (by omega) (m189 hk.2.2.1 (fun m5 o5 x5 => ?_))⟩⟩
  exact ⟨fun _ => q m5 _ (hk.mod o5 x5), fun h => absurd ((lg_cmp_eq _ _).mpr rfl) h⟩
theorem op645 (hj : LJ μ st n f) (hi : i + 6 ≤ n) (hc : cl + 0 ≤ 601024) (hs : sl + 0 ≤ 7293033) (q : ∀ μ' st', LJ μ' st' n f → ax_Rw l G ax_h249 EE 1466 [(0, ax_r (some 0)), (1, ax_r (some 64)), (2, ax_r (some 332)), (3, ax_r (some 340)), (4, ax_i (nI i))] [] (cl + 0) (sl + 0) μ') : ax_Rw l G ax_h249 EE 645 [(0, ax_r (some 0)), (1, ax_r (some 64)), (2, ax_r (some 332)), (3, ax_r (some 340)), (4, ax_i (nI i))] [] cl sl μ := by
  have hn : n < 2 ^ 31 := hj.2.2.2.2
  refine sg249_645 l G EE 0 (some 64) (some 332) (some 340) (nI i) cl sl μ ?_
  simp only [nJ_1, nJ_2, nJ_3, nJ_4, nJ_5, clN (show i + 1 < 2 ^ 31 by omega), clN (show i + 2 < 2 ^ 31 by omega), clN (show i + 3 < 2 ^ 31 by omega), clN (show i + 4 < 2 ^ 31 by omega), clN (show i + 5 < 2 ^ 31 by omega), hj.1.2.2]
  refine ⟨hj.inn (by omega), hj.inn (by omega), hj.inn (by omega), wr_c rfl ⟨hj.k64, ax_gd.mk (by omega) (by omega) (p193 hj.2.1 (fun m2 o2 x2 => ?_))⟩⟩
  have hk := hj.cls o2 x2
  simp only [hk.1.2.2]
  refine ⟨hk.inn (by omega), hk.inn (by omega), hk.inn (by omega), wr_c rfl ⟨hk.k332, ax_gd.mk (by omega) (by omega) (m213 hk.2.2.1 (fun m5 o5 x5 => ?_))⟩⟩
  rw [br_T rfl]
  exact q m5 _ (hk.mod o5 x5)
theorem op694 (hj : LJ μ st n f) (hi : i + 6 ≤ n) (hc : cl + 0 ≤ 601024) (hs : sl + 0 ≤ 7293033) (q : ∀ μ' st', LJ μ' st' n f → ax_Rw l G ax_h249 EE 1466 [(0, ax_r (some 0)), (1, ax_r (some 64)), (2, ax_r (some 332)), (3, ax_r (some 340)), (4, ax_i (nI i))] [] (cl + 0) (sl + 0) μ') : ax_Rw l G ax_h249 EE 694 [(0, ax_r (some 0)), (1, ax_r (some 64)), (2, ax_r (some 332)), (3, ax_r (some 340)), (4, ax_i (nI i))] [] cl sl μ := by
  have hn : n < 2 ^ 31 := hj.2.2.2.2
  refine sg249_694 l G EE 0 (some 64) (some 332) (some 340) (nI i) cl sl μ ?_
  simp only [nJ_1, nJ_2, nJ_3, nJ_4, nJ_5, clN (show i + 1 < 2 ^ 31 by omega), clN (show i + 2 < 2 ^ 31 by omega), clN (show i + 3 < 2 ^ 31 by omega), clN (show i + 4 < 2 ^ 31 by omega), clN (show i + 5 < 2 ^ 31 by omega), hj.1.2.2]
  refine ⟨hj.inn (by omega), wr_c rfl ⟨hj.k64, ax_gd.mk (by omega) (by omega) (p161 hj.2.1 (fun m2 o2 x2 => ?_))⟩⟩
  have hk := hj.cls o2 x2
  simp only [hk.1.2.2]
  refine ⟨hk.inn (by omega), wr_c rfl ⟨hk.k332, ax_gd.mk (by omega) (by omega) (m148 hk.2.2.1 (fun m5 o5 x5 => ?_))⟩⟩
  rw [br_T rfl]
  exact q m5 _ (hk.mod o5 x5)
theorem op719 (hj : LJ μ st n f) (hi : i + 6 ≤ n) (hc : cl + 0 ≤ 601024) (hs : sl + 0 ≤ 7293033) (q : ∀ μ' st', LJ μ' st' n f → ax_Rw l G ax_h249 EE 1466 [(0, ax_r (some 0)), (1, ax_r (some 64)), (2, ax_r (some 332)), (3, ax_r (some 340)), (4, ax_i (nI i))] [] (cl + 0) (sl + 0) μ') : ax_Rw l G ax_h249 EE 719 [(0, ax_r (some 0)), (1, ax_r (some 64)), (2, ax_r (some 332)), (3, ax_r (some 340)), (4, ax_i (nI i))] [] cl sl μ := by
  have hn : n < 2 ^ 31 := hj.2.2.2.2
  refine sg249_719 l G EE 0 (some 64) (some 332) (some 340) (nI i) cl sl μ ?_
  simp only [nJ_1, nJ_2, nJ_3, nJ_4, nJ_5, clN (show i + 1 < 2 ^ 31 by omega), clN (show i + 2 < 2 ^ 31 by omega), clN (show i + 3 < 2 ^ 31 by omega), clN (show i + 4 < 2 ^ 31 by omega), clN (show i + 5 < 2 ^ 31 by omega), hj.1.2.2]
  refine ⟨hj.inn (by omega), hj.inn (by omega), wr_c rfl ⟨hj.k64, ax_gd.mk (by omega) (by omega) (p162 hj.2.1 (fun m2 o2 x2 => ?_))⟩⟩
  have hk := hj.cls o2 x2
  simp only [hk.1.2.2]
  refine ⟨hk.inn (by omega), hk.inn (by omega), wr_c rfl ⟨hk.k332, ax_gd.mk (by omega) (by omega) (m215 hk.2.2.1 (fun m5 o5 x5 => ?_))⟩⟩
  rw [br_T rfl]
  exact q m5 _ (hk.mod o5 x5)
theorem op756 (hj : LJ μ st n f) (hi : i + 6 ≤ n) (hc : cl + 0 ≤ 601024) (hs : sl + 0 ≤ 7293033) (q : ∀ μ' st', LJ μ' st' n f → ax_Rw l G ax_h249 EE 1466 [(0, ax_r (some 0)), (1, ax_r (some 64)), (2, ax_r (some 332)), (3, ax_r (some 340)), (4, ax_i (nI i))] [] (cl + 0) (sl + 0) μ') : ax_Rw l G ax_h249 EE 756 [(0, ax_r (some 0)), (1, ax_r (some 64)), (2, ax_r (some 332)), (3, ax_r (some 340)), (4, ax_i (nI i))] [] cl sl μ := by
  have hn : n < 2 ^ 31 := hj.2.2.2.2
  refine sg249_756 l G EE 0 (some 64) (some 332) (some 340) (nI i) cl sl μ ?_
  simp only [nJ_1, nJ_2, nJ_3, nJ_4, nJ_5, clN (show i + 1 < 2 ^ 31 by omega), clN (show i + 2 < 2 ^ 31 by omega), clN (show i + 3 < 2 ^ 31 by omega), clN (show i + 4 < 2 ^ 31 by omega), clN (show i + 5 < 2 ^ 31 by omega), hj.1.2.2]
  refine ⟨hj.inn (by omega), hj.inn (by omega), wr_c rfl ⟨hj.k64, ax_gd.mk (by omega) (by omega) (p207 hj.2.1 (fun m2 o2 x2 => ?_))⟩⟩
  have hk := hj.cls o2 x2
  simp only [hk.1.2.2]
  refine ⟨hk.inn (by omega), hk.inn (by omega), wr_c rfl ⟨hk.k332, ax_gd.mk (by omega) (by omega) (m232 hk.2.2.1 (fun m5 o5 x5 => ?_))⟩⟩
  rw [br_T rfl]
  exact q m5 _ (hk.mod o5 x5)
theorem op793 (hj : LJ μ st n f) (hi : i + 6 ≤ n) (hc : cl + 0 ≤ 601024) (hs : sl + 0 ≤ 7293033) (q : ∀ μ' st', LJ μ' st' n f → ax_Rw l G ax_h249 EE 1466 [(0, ax_r (some 0)), (1, ax_r (some 64)), (2, ax_r (some 332)), (3, ax_r (some 340)), (4, ax_i (nI i))] [] (cl + 0) (sl + 0) μ') : ax_Rw l G ax_h249 EE 793 [(0, ax_r (some 0)), (1, ax_r (some 64)), (2, ax_r (some 332)), (3, ax_r (some 340)), (4, ax_i (nI i))] [] cl sl μ := by
  have hn : n < 2 ^ 31 := hj.2.2.2.2
  refine sg249_793 l G EE 0 (some 64) (some 332) (some 340) (nI i) cl sl μ ?_
  simp only [nJ_1, nJ_2, nJ_3, nJ_4, nJ_5, clN (show i + 1 < 2 ^ 31 by omega), clN (show i + 2 < 2 ^ 31 by omega), clN (show i + 3 < 2 ^ 31 by omega), clN (show i + 4 < 2 ^ 31 by omega), clN (show i + 5 < 2 ^ 31 by omega), hj.1.2.2]
  refine ⟨hj.inn (by omega), hj.inn (by omega), hj.inn (by omega), wr_c rfl ⟨hj.k64, ax_gd.mk (by omega) (by omega) (p164 hj.2.1 (fun m2 o2 x2 => ?_))⟩⟩
  have hk := hj.cls o2 x2
  simp only [hk.1.2.2]
  refine ⟨hk.inn (by omega), hk.inn (by omega), hk.inn (by omega), wr_c rfl ⟨hk.k332, ax_gd.mk (by omega) (by omega) (m150 hk.2.2.1 (fun m5 o5 x5 => ?_))⟩⟩
  rw [br_T rfl]
  exact q m5 _ (hk.mod o5 x5)
theorem op842 (hj : LJ μ st n f) (hi : i + 6 ≤ n) (hc : cl + 0 ≤ 601024) (hs : sl + 0 ≤ 7293033) (q : ∀ μ' st', LJ μ' st' n f → ax_Rw l G ax_h249 EE 1466 [(0, ax_r (some 0)), (1, ax_r (some 64)), (2, ax_r (some 332)), (3, ax_r (some 340)), (4, ax_i (nI i))] [] (cl + 0) (sl + 0) μ') : ax_Rw l G ax_h249 EE 842 [(0, ax_r (some 0)), (1, ax_r (some 64)), (2, ax_r (some 332)), (3, ax_r (some 340)), (4, ax_i (nI i))] [] cl sl μ := by
  have hn : n < 2 ^ 31 := hj.2.2.2.2
  refine sg249_842 l G EE 0 (some 64) (some 332) (some 340) (nI i) cl sl μ ?_
  simp only [nJ_1, nJ_2, nJ_3, nJ_4, nJ_5, clN (show i + 1 < 2 ^ 31 by omega), clN (show i + 2 < 2 ^ 31 by omega), clN (show i + 3 < 2 ^ 31 by omega), clN (show i + 4 < 2 ^ 31 by omega), clN (show i + 5 < 2 ^ 31 by omega), hj.1.2.2]
  refine ⟨hj.inn (by omega), hj.inn (by omega), hj.inn (by omega), wr_c rfl ⟨hj.k64, ax_gd.mk (by omega) (by omega) (p129 hj.2.1 (fun m2 o2 x2 => ?_))⟩⟩
  have hk := hj.cls o2 x2
  simp only [hk.1.2.2]
  refine ⟨hk.inn (by omega), hk.inn (by omega), hk.inn (by omega), wr_c rfl ⟨hk.k332, ax_gd.mk (by omega) (by omega) (m236 hk.2.2.1 (fun m5 o5 x5 => ?_))⟩⟩
  rw [br_T rfl]
  exact q m5 _ (hk.mod o5 x5)
theorem op891 (hj : LJ μ st n f) (hi : i + 6 ≤ n) (hc : cl + 0 ≤ 601024) (hs : sl + 0 ≤ 7293033) (q : ∀ μ' st', LJ μ' st' n f → ax_Rw l G ax_h249 EE 1466 [(0, ax_r (some 0)), (1, ax_r (some 64)), (2, ax_r (some 332)), (3, ax_r (some 340)), (4, ax_i (nI i))] [] (cl + 0) (sl + 0) μ') : ax_Rw l G ax_h249 EE 891 [(0, ax_r (some 0)), (1, ax_r (some 64)), (2, ax_r (some 332)), (3, ax_r (some 340)), (4, ax_i (nI i))] [] cl sl μ := by
  have hn : n < 2 ^ 31 := hj.2.2.2.2
  refine sg249_891 l G EE 0 (some 64) (some 332) (some 340) (nI i) cl sl μ ?_
  simp only [nJ_1, nJ_2, nJ_3, nJ_4, nJ_5, clN (show i + 1 < 2 ^ 31 by omega), clN (show i + 2 < 2 ^ 31 by omega), clN (show i + 3 < 2 ^ 31 by omega), clN (show i + 4 < 2 ^ 31 by omega), clN (show i + 5 < 2 ^ 31 by omega), hj.1.2.2]
  refine ⟨hj.inn (by omega), hj.inn (by omega), hj.inn (by omega), wr_c rfl ⟨hj.k64, ax_gd.mk (by omega) (by omega) (p194 hj.2.1 (fun m2 o2 x2 => ?_))⟩⟩
  have hk := hj.cls o2 x2
  simp only [hk.1.2.2]
  refine ⟨hk.inn (by omega), hk.inn (by omega), hk.inn (by omega), wr_c rfl ⟨hk.k332, ax_gd.mk (by omega) (by omega) (m235 hk.2.2.1 (fun m5 o5 x5 => ?_))⟩⟩
  rw [br_T rfl]
  exact q m5 _ (hk.mod o5 x5)
theorem op940 (hj : LJ μ st n f) (hi : i + 6 ≤ n) (hc : cl + 0 ≤ 601024) (hs : sl + 0 ≤ 7293033) (q : ∀ μ' st', LJ μ' st' n f → ax_Rw l G ax_h249 EE 1466 [(0, ax_r (some 0)), (1, ax_r (some 64)), (2, ax_r (some 332)), (3, ax_r (some 340)), (4, ax_i (nI i))] [] (cl + 0) (sl + 0) μ') : ax_Rw l G ax_h249 EE 940 [(0, ax_r (some 0)), (1, ax_r (some 64)), (2, ax_r (some 332)), (3, ax_r (some 340)), (4, ax_i (nI i))] [] cl sl μ := by
  have hn : n < 2 ^ 31 := hj.2.2.2.2
  refine sg249_940 l G EE 0 (some 64) (some 332) (some 340) (nI i) cl sl μ ?_
  simp only [nJ_1, nJ_2, nJ_3, nJ_4, nJ_5, clN (show i + 1 < 2 ^ 31 by omega), clN (show i + 2 < 2 ^ 31 by omega), clN (show i + 3 < 2 ^ 31 by omega), clN (show i + 4 < 2 ^ 31 by omega), clN (show i + 5 < 2 ^ 31 by omega), hj.1.2.2]
  refine ⟨hj.inn (by omega), hj.inn (by omega), wr_c rfl ⟨hj.k64, ax_gd.mk (by omega) (by omega) (p209 hj.2.1 (fun m2 o2 x2 => ?_))⟩⟩
  have hk := hj.cls o2 x2
  simp only [hk.1.2.2]
  refine ⟨hk.inn (by omega), hk.inn (by omega), wr_c rfl ⟨hk.k332, ax_gd.mk (by omega) (by omega) (m222 hk.2.2.1 (fun m5 o5 x5 => ?_))⟩⟩
  rw [br_T rfl]
  exact q m5 _ (hk.mod o5 x5)
theorem op977 (hj : LJ μ st n f) (hi : i + 6 ≤ n) (hc : cl + 0 ≤ 601024) (hs : sl + 0 ≤ 7293033) (q : ∀ μ' st', LJ μ' st' n f → ax_Rw l G ax_h249 EE 1466 [(0, ax_r (some 0)), (1, ax_r (some 64)), (2, ax_r (some 332)), (3, ax_r (some 340)), (4, ax_i (nI i))] [] (cl + 0) (sl + 0) μ') : ax_Rw l G ax_h249 EE 977 [(0, ax_r (some 0)), (1, ax_r (some 64)), (2, ax_r (some 332)), (3, ax_r (some 340)), (4, ax_i (nI i))] [] cl sl μ := by
  have hn : n < 2 ^ 31 := hj.2.2.2.2
  refine sg249_977 l G EE 0 (some 64) (some 332) (some 340) (nI i) cl sl μ ?_
  simp only [nJ_1, nJ_2, nJ_3, nJ_4, nJ_5, clN (show i + 1 < 2 ^ 31 by omega), clN (show i + 2 < 2 ^ 31 by omega), clN (show i + 3 < 2 ^ 31 by omega), clN (show i + 4 < 2 ^ 31 by omega), clN (show i + 5 < 2 ^ 31 by omega), hj.1.2.2]
  refine ⟨hj.inn (by omega), hj.inn (by omega), hj.inn (by omega), wr_c rfl ⟨hj.k64, ax_gd.mk (by omega) (by omega) (p168 hj.2.1 (fun m2 o2 x2 => ?_))⟩⟩
  have hk := hj.cls o2 x2
  simp only [hk.1.2.2]
  refine ⟨hk.inn (by omega), hk.inn (by omega), hk.inn (by omega), wr_c rfl ⟨hk.k332, ax_gd.mk (by omega) (by omega) (m159 hk.2.2.1 (fun m5 o5 x5 => ?_))⟩⟩
  rw [br_T rfl]
  exact q m5 _ (hk.mod o5 x5)
theorem op1115 (hj : LJ μ st n f) (hi : i + 6 ≤ n) (hc : cl + 3 ≤ 601024) (hs : sl + 9 ≤ 7293033) (q : ∀ μ' st', LJ μ' st' n f → ax_Rw l G ax_h249 EE 1466 [(0, ax_r (some 0)), (1, ax_r (some 64)), (2, ax_r (some 332)), (3, ax_r (some 340)), (4, ax_i (nI i))] [] (cl + 3) (sl + 9) μ') : ax_Rw l G ax_h249 EE 1115 [(0, ax_r (some 0)), (1, ax_r (some 64)), (2, ax_r (some 332)), (3, ax_r (some 340)), (4, ax_i (nI i))] [] cl sl μ := by
  have hn : n < 2 ^ 31 := hj.2.2.2.2
  refine sg249_1115 l G EE 0 (some 64) (some 332) (some 340) (nI i) cl sl μ ?_
  simp only [nJ_1, nJ_2, nJ_3, nJ_4, nJ_5, clN (show i + 1 < 2 ^ 31 by omega), clN (show i + 2 < 2 ^ 31 by omega), clN (show i + 3 < 2 ^ 31 by omega), clN (show i + 4 < 2 ^ 31 by omega), clN (show i + 5 < 2 ^ 31 by omega), hj.1.2.2]
  refine ⟨hj.inn (by omega), hj.inn (by omega), hj.inn (by omega), hj.inn (by omega), wr_c rfl ⟨hj.k64, ax_gd.mk (by omega) (by omega) (p228 hj.2.1 (fun m2 o2 x2 => ?_))⟩⟩
  have hk := hj.cls o2 x2
  simp only [hk.1.2.2]
  refine ⟨hk.inn (by omega), hk.inn (by omega), hk.inn (by omega), hk.inn (by omega), wr_c rfl ⟨hk.k332, ax_gd.mk (by omega) (by omega) (m240 hk.2.2.1 (fun m5 o5 x5 => ?_))⟩⟩
  rw [br_T rfl]
  exact q m5 _ (hk.mod o5 x5)
theorem op1176 (hj : LJ μ st n f) (hi : i + 6 ≤ n) (hc : cl + 0 ≤ 601024) (hs : sl + 0 ≤ 7293033) (q : ∀ μ' st', LJ μ' st' n f → ax_Rw l G ax_h249 EE 1466 [(0, ax_r (some 0)), (1, ax_r (some 64)), (2, ax_r (some 332)), (3, ax_r (some 340)), (4, ax_i (nI i))] [] (cl + 0) (sl + 0) μ') : ax_Rw l G ax_h249 EE 1176 [(0, ax_r (some 0)), (1, ax_r (some 64)), (2, ax_r (some 332)), (3, ax_r (some 340)), (4, ax_i (nI i))] [] cl sl μ := by
  have hn : n < 2 ^ 31 := hj.2.2.2.2
  refine sg249_1176 l G EE 0 (some 64) (some 332) (some 340) (nI i) cl sl μ ?_
  simp only [nJ_1, nJ_2, nJ_3, nJ_4, nJ_5, clN (show i + 1 < 2 ^ 31 by omega), clN (show i + 2 < 2 ^ 31 by omega), clN (show i + 3 < 2 ^ 31 by omega), clN (show i + 4 < 2 ^ 31 by omega), clN (show i + 5 < 2 ^ 31 by omega), hj.1.2.2]
  refine ⟨hj.inn (by omega), hj.inn (by omega), hj.inn (by omega), hj.inn (by omega), wr_c rfl ⟨hj.k64, ax_gd.mk (by omega) (by omega) (p227 hj.2.1 (fun m2 o2 x2 => ?_))⟩⟩
  have hk := hj.cls o2 x2
  simp only [hk.1.2.2]
  refine ⟨hk.inn (by omega), hk.inn (by omega), hk.inn (by omega), hk.inn (by omega), wr_c rfl ⟨hk.k332, ax_gd.mk (by omega) (by omega) (m239 hk.2.2.1 (fun m5 o5 x5 => ?_))⟩⟩
  rw [br_T rfl]
  exact q m5 _ (hk.mod o5 x5)
theorem op1237 (hj : LJ μ st n f) (hi : i + 6 ≤ n) (hc : cl + 0 ≤ 601024) (hs : sl + 0 ≤ 7293033) (q : ∀ μ' st', LJ μ' st' n f → ax_Rw l G ax_h249 EE 1466 [(0, ax_r (some 0)), (1, ax_r (some 64)), (2, ax_r (some 332)), (3, ax_r (some 340)), (4, ax_i (nI i))] [] (cl + 0) (sl + 0) μ') : ax_Rw l G ax_h249 EE 1237 [(0, ax_r (some 0)), (1, ax_r (some 64)), (2, ax_r (some 332)), (3, ax_r (some 340)), (4, ax_i (nI i))] [] cl sl μ := by
  have hn : n < 2 ^ 31 := hj.2.2.2.2
  refine sg249_1237 l G EE 0 (some 64) (some 332) (some 340) (nI i) cl sl μ ?_
  simp only [nJ_1, nJ_2, nJ_3, nJ_4, nJ_5, clN (show i + 1 < 2 ^ 31 by omega), clN (show i + 2 < 2 ^ 31 by omega), clN (show i + 3 < 2 ^ 31 by omega), clN (show i + 4 < 2 ^ 31 by omega), clN (show i + 5 < 2 ^ 31 by omega), hj.1.2.2]
  refine ⟨hj.inn (by omega), hj.inn (by omega), hj.inn (by omega), wr_c rfl ⟨hj.k64, ax_gd.mk (by omega) (by omega) (p208 hj.2.1 (fun m2 o2 x2 => ?_))⟩⟩
  have hk := hj.cls o2 x2
  simp only [hk.1.2.2]
  refine ⟨hk.inn (by omega), hk.inn (by omega), hk.inn (by omega), wr_c rfl ⟨hk.k332, ax_gd.mk (by omega) (by omega) (m221 hk.2.2.1 (fun m5 o5 x5 => ?_))⟩⟩
  rw [br_T rfl]
  exact q m5 _ (hk.mod o5 x5)
theorem op1286 (hj : LJ μ st n f) (hi : i + 6 ≤ n) (hc : cl + 0 ≤ 601024) (hs : sl + 0 ≤ 7293033) (q : ∀ μ' st', LJ μ' st' n f → ax_Rw l G ax_h249 EE 1466 [(0, ax_r (some 0)), (1, ax_r (some 64)), (2, ax_r (some 332)), (3, ax_r (some 340)), (4, ax_i (nI i))] [] (cl + 0) (sl + 0) μ') : ax_Rw l G ax_h249 EE 1286 [(0, ax_r (some 0)), (1, ax_r (some 64)), (2, ax_r (some 332)), (3, ax_r (some 340)), (4, ax_i (nI i))] [] cl sl μ := by
  have hn : n < 2 ^ 31 := hj.2.2.2.2
  refine sg249_1286 l G EE 0 (some 64) (some 332) (some 340) (nI i) cl sl μ ?_
  simp only [nJ_1, nJ_2, nJ_3, nJ_4, nJ_5, clN (show i + 1 < 2 ^ 31 by omega), clN (show i + 2 < 2 ^ 31 by omega), clN (show i + 3 < 2 ^ 31 by omega), clN (show i + 4 < 2 ^ 31 by omega), clN (show i + 5 < 2 ^ 31 by omega), hj.1.2.2]
  refine ⟨hj.inn (by omega), hj.inn (by omega), hj.inn (by omega), hj.inn (by omega), wr_c rfl ⟨hj.k64, ax_gd.mk (by omega) (by omega) (p206 hj.2.1 (fun m2 o2 x2 => ?_))⟩⟩
  have hk := hj.cls o2 x2
  simp only [hk.1.2.2]
  refine ⟨hk.inn (by omega), hk.inn (by omega), hk.inn (by omega), hk.inn (by omega), wr_c rfl ⟨hk.k332, ax_gd.mk (by omega) (by omega) (m230 hk.2.2.1 (fun m5 o5 x5 => ?_))⟩⟩
  rw [br_T rfl]
  exact q m5 _ (hk.mod o5 x5)
theorem op1347 (hj : LJ μ st n f) (hi : i + 6 ≤ n) (hc : cl + 0 ≤ 601024) (hs : sl + 0 ≤ 7293033) (q : ∀ μ' st', LJ μ' st' n f → ax_Rw l G ax_h249 EE 1466 [(0, ax_r (some 0)), (1, ax_r (some 64)), (2, ax_r (some 332)), (3, ax_r (some 340)), (4, ax_i (nI i))] [] (cl + 0) (sl + 0) μ') : ax_Rw l G ax_h249 EE 1347 [(0, ax_r (some 0)), (1, ax_r (some 64)), (2, ax_r (some 332)), (3, ax_r (some 340)), (4, ax_i (nI i))] [] cl sl μ := by
  have hn : n < 2 ^ 31 := hj.2.2.2.2
  refine sg249_1347 l G EE 0 (some 64) (some 332) (some 340) (nI i) cl sl μ ?_
  refine wr_c rfl ⟨hj.k64, ax_gd.mk (by omega) (by omega) (p211 hj.2.1 (fun m2 o2 x2 => ?_))⟩
  have hk := hj.cls o2 x2
  refine wr_c rfl ⟨hk.k332, ax_gd.mk (by omega) (by omega) (m238 hk.2.2.1 (fun m5 o5 x5 => ?_))⟩
  rw [br_T rfl]
  exact q m5 _ (hk.mod o5 x5)
theorem op1428 (hj : LJ μ st n f) (hi : i + 6 ≤ n) (hc : cl + 0 ≤ 601024) (hs : sl + 0 ≤ 7293033) (q : ∀ μ' st', LJ μ' st' n f → ax_Rw l G ax_h249 EE 1466 [(0, ax_r (some 0)), (1, ax_r (some 64)), (2, ax_r (some 332)), (3, ax_r (some 340)), (4, ax_i (nI i))] [] (cl + 0) (sl + 0) μ') : ax_Rw l G ax_h249 EE 1428 [(0, ax_r (some 0)), (1, ax_r (some 64)), (2, ax_r (some 332)), (3, ax_r (some 340)), (4, ax_i (nI i))] [] cl sl μ := by
  have hn : n < 2 ^ 31 := hj.2.2.2.2
  refine sg249_1428 l G EE 0 (some 64) (some 332) (some 340) (nI i) cl sl μ ?_
  simp only [nJ_1, nJ_2, nJ_3, nJ_4, nJ_5, clN (show i + 1 < 2 ^ 31 by omega), clN (show i + 2 < 2 ^ 31 by omega), clN (show i + 3 < 2 ^ 31 by omega), clN (show i + 4 < 2 ^ 31 by omega), clN (show i + 5 < 2 ^ 31 by omega), hj.1.2.2]
  refine ⟨hj.inn (by omega), wr_c rfl ⟨hj.k64, ax_gd.mk (by omega) (by omega) (p7 hj.2.1 ?_)⟩⟩
  have hk := hj.same
  simp only [hk.1.2.2]
  refine ⟨hk.inn (by omega), wr_c rfl ⟨hk.k332, ax_gd.mk (by omega) (by omega) (m120 hk.2.2.1 (fun m5 o5 x5 => ?_))⟩⟩
  rw [br_T rfl]
  exact q m5 _ (hk.mod o5 x5)
theorem op1453 (hj : LJ μ st n f) (hi : i + 6 ≤ n) (hc : cl + 0 ≤ 601024) (hs : sl + 0 ≤ 7293033) (q : ∀ μ' st', LJ μ' st' n f → ax_Rw l G ax_h249 EE 1466 [(0, ax_r (some 0)), (1, ax_r (some 64)), (2, ax_r (some 332)), (3, ax_r (some 340)), (4, ax_i (nI i))] [] (cl + 0) (sl + 0) μ') : ax_Rw l G ax_h249 EE 1453 [(0, ax_r (some 0)), (1, ax_r (some 64)), (2, ax_r (some 332)), (3, ax_r (some 340)), (4, ax_i (nI i))] [] cl sl μ := by
  have hn : n < 2 ^ 31 := hj.2.2.2.2
  refine sg249_1453 l G EE 0 (some 64) (some 332) (some 340) (nI i) cl sl μ ?_
  refine wr_c rfl ⟨hj.k64, ax_gd.mk (by omega) (by omega) (p8 hj.2.1 ?_)⟩
  have hk := hj.same
  refine wr_c rfl ⟨hk.k332, ax_gd.mk (by omega) (by omega) (m71 hk.2.2.1 (fun m5 o5 x5 => ?_))⟩
  rw [br_T rfl]
  exact q m5 _ (hk.mod o5 x5)
end OP
