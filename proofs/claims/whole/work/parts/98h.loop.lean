/-! span; the law's loop; its start -/
section LP
variable {l : Launch} {G : ax_G} {EE : Program → Env → State → MethodId → Array Value → List Frame → Method → Code → State → Prop} {n : Nat} {f : Nat → Int32}
theorem op1026 {μ : ax_M} {st : St} {i cl sl : Nat} (hj : LJ μ st n f) (hi : i + 6 ≤ n) (hc : cl + 0 ≤ 601024) (hs : sl + 0 ≤ 7293033) (q : ∀ μ' st', LJ μ' st' n f → ax_Rw l G ax_h249 EE 1466 [(0, ax_r (some 0)), (1, ax_r (some 64)), (2, ax_r (some 332)), (3, ax_r (some 340)), (4, ax_i (nI i))] [] (cl + 0) (sl + 0) μ') : ax_Rw l G ax_h249 EE 1026 [(0, ax_r (some 0)), (1, ax_r (some 64)), (2, ax_r (some 332)), (3, ax_r (some 340)), (4, ax_i (nI i))] [] cl sl μ := by
  have hn : n < 2 ^ 31 := hj.2.2.2.2
  refine sg249_1026 l G EE 0 (some 64) (some 332) (some 340) (nI i) cl sl μ ?_
  simp only [nJ_1, nJ_2, nJ_3, nJ_4, nJ_5, clN (show i + 1 < 2 ^ 31 by omega), clN (show i + 2 < 2 ^ 31 by omega), clN (show i + 3 < 2 ^ 31 by omega), clN (show i + 4 < 2 ^ 31 by omega), clN (show i + 5 < 2 ^ 31 by omega), hj.1.2.2]
  refine ⟨hj.inn (by omega), hj.inn (by omega), hj.inn (by omega), hj.inn (by omega), hj.inn (by omega), ?_⟩
  by_cases e : f (i + 5) = 0
  · rw [br_T e]
    refine wr_c rfl ⟨hj.k64, ax_gd.mk (by omega) (by omega) (p166 (mo := false) hj.2.1 (fun m2 o2 x2 => ?_))⟩
    have hk := hj.cls o2 x2
    simp only [hk.1.2.2]
    refine ⟨hk.inn (by omega), hk.inn (by omega), hk.inn (by omega), hk.inn (by omega), hk.inn (by omega), ?_⟩
    rw [br_T e]
    refine wr_c rfl ⟨hk.k332, ax_gd.mk (by omega) (by omega) (m157 (mo := false) hk.2.2.1 (fun m5 o5 x5 => ?_))⟩
    rw [br_T rfl]
    exact q m5 _ (hk.mod o5 x5)
  · rw [br_F e]
    refine wr_c rfl ⟨hj.k64, ax_gd.mk (by omega) (by omega) (p166 (mo := true) hj.2.1 (fun m2 o2 x2 => ?_))⟩
    have hk := hj.cls o2 x2
    simp only [hk.1.2.2]
    refine ⟨hk.inn (by omega), hk.inn (by omega), hk.inn (by omega), hk.inn (by omega), hk.inn (by omega), ?_⟩
    rw [br_F e]
    refine wr_c rfl ⟨hk.k332, ax_gd.mk (by omega) (by omega) (m157 (mo := true) hk.2.2.1 (fun m5 o5 x5 => ?_))⟩
    rw [br_T rfl]
    exact q m5 _ (hk.mod o5 x5)
/-- the call of led -/
def Led (l : Launch) (G : ax_G) (EE : Program → Env → State → MethodId → Array Value → List Frame → Method → Code → State → Prop) (n : Nat) (f : Nat → Int32) : Prop := ∀ (i cl sl : Nat) (μ : ax_M) (st : St), LJ μ st n f → i + 6 ≤ n → cl + 18 ≤ 601024 → sl + 222 ≤ 7293033 →
  (∀ μ' st', LJ μ' st' n f → ax_Rw l G ax_h249 EE 1466 [(0, ax_r (some 0)), (1, ax_r (some 64)), (2, ax_r (some 332)), (3, ax_r (some 340)), (4, ax_i (nI i))] [] (cl + 0) (sl + 0) μ') → (∀ μ' st', LJ μ' st' n f → ax_Rw l G ax_h249 EE 1466 [(0, ax_r (some 0)), (1, ax_r (some 64)), (2, ax_r (some 332)), (3, ax_r (some 340)), (4, ax_i (nI i))] [] (cl + 1) (sl + 6) μ') → ax_Rw l G ax_h249 EE 1360 [(0, ax_r (some 0)), (1, ax_r (some 64)), (2, ax_r (some 332)), (3, ax_r (some 340)), (4, ax_i (nI i))] [] cl sl μ
theorem sgRet (l : Launch) (G : ax_G) (Q : Option ax_V → ax_M → Prop) (cl sl : Nat) (μ : ax_M) (hs : ax_gd (cl) 601024 (sl) 7293033 ((((1 : Int32) = 0 ∨ (1 : Int32) = 1) ∧ Q (some (ax_i 1)) μ))) : ax_Rw l G ax_h249 (ax_E G ax_h249 Q) 1472 [] [] cl sl μ :=
  ax_go (cd := cd249) (N := 1474) (cuts := []) ok249 cn249 976 hs
/-- the law's end -/
def Lend (l : Launch) (G : ax_G) (EE : Program → Env → State → MethodId → Array Value → List Frame → Method → Code → State → Prop) : Prop := ∀ (cl sl : Nat) (μ : ax_M), cl ≤ 601024 → sl ≤ 7293033 → ax_Rw l G ax_h249 EE 1472 [] [] cl sl μ
theorem lcond {i n : Nat} (hi : i ≤ 3072) (hn : n ≤ 3072) : nI i ≤ nI n - 6 ↔ i + 6 ≤ n := by
  rw [q6, Int32.le_iff_toInt_le, nI_subI (by omega) (by omega), nI_toInt (by omega)]
  omega
theorem lloop (hG : GC G) (hQ : Lend l G EE) (hn : n ≤ 3072) (hled : Led l G EE n f) (k : Nat) : ∀ (i cl sl : Nat) (μ : ax_M) (st : St), n ≤ i + k → i ≤ n → cl ≤ 277 + 3 * i → sl ≤ 4963 + 37 * i → LJ μ st n f → ax_Rw l G ax_h249 EE 23 [(0, ax_r (some 0)), (1, ax_r (some 64)), (2, ax_r (some 332)), (3, ax_r (some 340)), (4, ax_i (nI i))] [] cl sl μ := by
  induction k with
  | zero =>
    intro i cl sl μ st hk hi hc hs hj
    refine sg249_23 l G EE 0 (some 64) (some 332) (some 340) (nI i) cl sl μ ⟨⟨by rw [hj.1.1]; omega, by rw [hj.1.1]; omega⟩, ?_⟩
    rw [hj.1.2.1, br_F (fun h => by have := (lcond (by omega) hn).mp h; omega)]
    exact hQ cl sl μ (by omega) (by omega)
  | succ k ih =>
    intro i cl sl μ st hk hi' hc hs hj
    refine sg249_23 l G EE 0 (some 64) (some 332) (some 340) (nI i) cl sl μ ⟨⟨by rw [hj.1.1]; omega, by rw [hj.1.1]; omega⟩, ?_⟩
    rw [hj.1.2.1]
    refine ⟨fun h => ?_, fun h => hQ cl sl μ (by omega) (by omega)⟩
    have hi := (lcond (by omega) hn).mp h
    have nxt : ∀ dc ds, dc ≤ 18 → ds ≤ 222 → ∀ μ' st', LJ μ' st' n f → ax_Rw l G ax_h249 EE 1466 [(0, ax_r (some 0)), (1, ax_r (some 64)), (2, ax_r (some 332)), (3, ax_r (some 340)), (4, ax_i (nI i))] [] (cl + dc) (sl + ds) μ' := fun dc ds h1 h2 μ' st' hj' => by
      refine sg249_1466 l G EE 0 (some 64) (some 332) (some 340) (nI i) _ _ μ' ?_
      rw [nJ_6]
      exact ih (i + 6) _ _ μ' st' (by omega) (by omega) (by omega) (by omega) hj'
    exact sg249_33 l G EE 0 (some 64) (some 332) (some 340) (nI i) cl sl μ ⟨hj.inn (by omega), ⟨fun _ => op176 hj hi (by omega) (by omega) (nxt 0 0 (by omega) (by omega)), fun _ => ⟨fun _ => op249 hG hj hi (by omega) (by omega) (nxt 18 222 (by omega) (by omega)), fun _ => ⟨fun _ => op274 hj hi (by omega) (by omega) (nxt 0 0 (by omega) (by omega)), fun _ => ⟨fun _ => op287 hj hi (by omega) (by omega) (nxt 0 0 (by omega) (by omega)), fun _ => ⟨fun _ => op300 hj hi (by omega) (by omega) (nxt 0 0 (by omega) (by omega)), fun _ => ⟨fun _ => op349 hj hi (by omega) (by omega) (nxt 0 0 (by omega) (by omega)), fun _ => ⟨fun _ => op410 hj hi (by omega) (by omega) (nxt 0 0 (by omega) (by omega)), fun _ => ⟨fun _ => op447 hj hi (by omega) (by omega) (nxt 0 0 (by omega) (by omega)), fun _ => ⟨fun _ => op484 hj hi (by omega) (by omega) (nxt 0 0 (by omega) (by omega)), fun _ => ⟨fun _ => op521 hj hi (by omega) (by omega) (nxt 0 0 (by omega) (by omega)), fun _ => ⟨fun _ => op558 hj hi (by omega) (by omega) (nxt 0 0 (by omega) (by omega)), fun _ => ⟨fun _ => op595 hj hi (by omega) (by omega) (nxt 0 0 (by omega) (by omega)), fun _ => ⟨fun _ => op645 hj hi (by omega) (by omega) (nxt 0 0 (by omega) (by omega)), fun _ => ⟨fun _ => op694 hj hi (by omega) (by omega) (nxt 0 0 (by omega) (by omega)), fun _ => ⟨fun _ => op719 hj hi (by omega) (by omega) (nxt 0 0 (by omega) (by omega)), fun _ => ⟨fun _ => op756 hj hi (by omega) (by omega) (nxt 0 0 (by omega) (by omega)), fun _ => ⟨fun _ => op793 hj hi (by omega) (by omega) (nxt 0 0 (by omega) (by omega)), fun _ => ⟨fun _ => op842 hj hi (by omega) (by omega) (nxt 0 0 (by omega) (by omega)), fun _ => ⟨fun _ => op891 hj hi (by omega) (by omega) (nxt 0 0 (by omega) (by omega)), fun _ => ⟨fun _ => op940 hj hi (by omega) (by omega) (nxt 0 0 (by omega) (by omega)), fun _ => ⟨fun _ => op977 hj hi (by omega) (by omega) (nxt 0 0 (by omega) (by omega)), fun _ => ⟨fun _ => op1026 hj hi (by omega) (by omega) (nxt 0 0 (by omega) (by omega)), fun _ => ⟨fun _ => op1115 hj hi (by omega) (by omega) (nxt 3 9 (by omega) (by omega)), fun _ => ⟨fun _ => op1176 hj hi (by omega) (by omega) (nxt 0 0 (by omega) (by omega)), fun _ => ⟨fun _ => op1237 hj hi (by omega) (by omega) (nxt 0 0 (by omega) (by omega)), fun _ => ⟨fun _ => op1286 hj hi (by omega) (by omega) (nxt 0 0 (by omega) (by omega)), fun _ => ⟨fun _ => op1347 hj hi (by omega) (by omega) (nxt 0 0 (by omega) (by omega)), fun _ => ⟨fun _ => hled i cl sl μ st hj hi (by omega) (by omega) (nxt 0 0 (by omega) (by omega)) (nxt 1 6 (by omega) (by omega)), fun _ => ⟨fun _ => op1428 hj hi (by omega) (by omega) (nxt 0 0 (by omega) (by omega)), fun _ => ⟨fun _ => op1453 hj hi (by omega) (by omega) (nxt 0 0 (by omega) (by omega)), fun _ => nxt 0 0 (by omega) (by omega) μ st hj⟩⟩⟩⟩⟩⟩⟩⟩⟩⟩⟩⟩⟩⟩⟩⟩⟩⟩⟩⟩⟩⟩⟩⟩⟩⟩⟩⟩⟩⟩⟩
def st0 : St := (fun _ => 0, 0, 0, 0, 0, none)
theorem X0 {μ : ax_M} (h : XS μ 66 108) (h64 : ∀ j, gI μ 64 j = 0) (h66 : ∀ j, gI μ 66 j = 0) : X μ st0 := by
  refine ⟨66, 108, h, ⟨by rw [h64]; exact q0, by rw [h64]; exact q0, by rw [h64]; exact q0⟩, ⟨by show 0 ≤ 900; omega, by show 0 ≤ 6; omega⟩, (fun e => by cases e), (fun i hi => absurd hi (Nat.not_lt_zero i)), (fun k hk => ⟨by rw [h66]; exact q0, by show 0 ≤ 20; omega⟩), (fun a ha => by cases ha)⟩
theorem lstart {μ : ax_M} (hG : GC G) (hQ : Lend l G EE) (hn : n ≤ 3072) (hled : Led l G EE n f) (hN : mN μ = 64) (hS : mK μ 0 = 21 ∧ mZ μ 0 = n ∧ ∀ j, gI μ 0 j = f j) : ax_Rw l G ax_h249 EE 0 [(0, ax_r (some 0))] [] 0 0 μ := by
  refine sg249_0 l G EE 0 μ ?_
  have f1 := Fresh.of μ 10
  rw [hN] at f1 ⊢
  refine ⟨by omega, d125 f1 (fun m1 n1 a1 x1 z1 w1 => ?_)⟩
  have f2 := Fresh.of m1 12
  rw [n1] at f2 ⊢
  refine ⟨by omega, d47 f2 (fun m2 n2 a2 mo2 wh2 z2 r2 => ?_)⟩
  rw [n2, show Int32.toNatClampNeg 1 = 1 from rfl]
  refine ⟨⟨by decide, by decide⟩, ax_gd.mk (by decide) (by decide) ?_⟩
  have A1 : Ag 332 m1 (nC m2 22 1) := Ag.tr (Ag.tr (by rw [← n1]; exact Ag.new m1 12 0) a2) ((Ag.new m2 22 1).sub (by omega))
  have A0 : Ag 64 μ (nC m2 22 1) := Ag.tr (Ag.tr (by rw [← hN]; exact Ag.new μ 10 0) a1) (A1.sub (by omega))
  rw [q0]
  refine lloop hG hQ hn hled n 0 _ _ _ st0 (by omega) (by omega) (by omega) (by omega) ⟨⟨by rw [A0.K (by omega)]; exact hS.1, by rw [A0.Z (by omega)]; exact hS.2.1, fun j => (A0.I (by omega)).trans (hS.2.2 j)⟩, (X0 x1 z1 w1).dn A1, ⟨?_, ⟨?_, ?_, ?_, ?_⟩, ⟨by show 0 ≤ 900; omega, by rw [ax_mN_nC]; omega⟩, fun i hi => absurd hi (Nat.not_lt_zero i), Or.inl ⟨rfl, ?_⟩⟩, ⟨by rw [← n2]; exact nCk _ _ _, by rw [← n2]; exact nCz _ _ _⟩, by omega⟩
  · unfold isMo at mo2 ⊢
    simp (disch := omega) only [nCK, nCZ, nCR]
    exact mo2
  · rw [nCI (by omega), z2 1 (by omega)]; exact q0
  · rw [nCI (by omega), wh2]; decide +kernel
  · rw [nCI (by omega), z2 6 (by omega)]; exact q0
  · rw [nCI (by omega), z2 13 (by omega)]; exact q0
  · rw [nCR (by omega)]; exact r2 3 (by omega)
end LP
