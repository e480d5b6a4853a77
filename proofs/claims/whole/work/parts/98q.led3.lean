/-! the law's led: it calls and catches -/
def cd250 : Nat → Option ax_X := fun pc => match pc with
  | 0 => some (.aload_n 3, 1, [3], ax_i 0)
  | 1 => some (.iconst 0, 1, [], ax_i 0)
  | 2 => some (.aload_n 0, 1, [0], ax_i 0)
  | 3 => some (.iload_n 1, 1, [1], ax_i 0)
  | 4 => some (.iload_n 2, 1, [2], ax_i 0)
  | 8 => some (.i2l, 1, [], ax_i 0)
  | 9 => some (.lastore, 1, [], ax_i 0)
  | 10 => some (.goto 7, 3, [17], ax_i 0)
  | 15 => some (.iconst 1, 1, [], ax_i 1)
  | 16 => some (.ireturn, 1, [], ax_i 0)
  | 17 => some (.iconst 0, 1, [], ax_i 0)
  | 18 => some (.ireturn, 1, [], ax_i 0)
  | _ => none
theorem ok250 : ax_okc ax_h250 cd250 19 = true := by decide +kernel
theorem cn250 : ax_cn.getD (ax_oc ax_h250) "" = (ax_nm ax_h250).cls := by decide +kernel
theorem sg250_0 (l : Launch) (G : ax_G) (EE : Program → Env → State → MethodId → Array Value → List Frame → Method → Code → State → Prop) (b0 b3 : Nat) (x1 x2 : Int32) (μ : ax_M) (hs : ax_Rw l G ax_h250 EE 5 [(0, ax_r (some b0)), (1, ax_i x1), (2, ax_i x2), (3, ax_r (some b3))] [ax_i x2, ax_i x1, ax_r (some b0), ax_i 0, ax_r (some b3)] 0 0 μ) : ax_Rw l G ax_h250 EE 0 [(0, ax_r (some b0)), (1, ax_i x1), (2, ax_i x2), (3, ax_r (some b3))] [] 0 0 μ :=
  ax_goE (cd := cd250) (N := 19) (cuts := [(5, [0, 1, 2, 3])]) ok250 cn250 9 hs
theorem sg250_8 (l : Launch) (G : ax_G) (Q : Option ax_V → ax_M → Prop) (b3 : Nat) (v : Int32) (cl sl : Nat) (lv : ax_L) (μ : ax_M) (hs : (64 ≤ b3 ∧ mK μ b3 = 22 ∧ vp_in 0 (mZ μ b3)) ∧ ax_gd cl 1 sl 6 (Q (some (ax_i 0)) (sL μ b3 (Int32.toNatClampNeg 0) (Int32.toInt64 v)))) : ax_Rw l G ax_h250 (ax_E G ax_h250 Q) 8 lv [ax_i v, ax_i 0, ax_r (some b3)] cl sl μ :=
  ax_go (cd := cd250) (N := 19) (cuts := []) ok250 cn250 9 hs
theorem sg250_15 (l : Launch) (G : ax_G) (Q : Option ax_V → ax_M → Prop) (cl sl : Nat) (lv : ax_L) (μ : ax_M) (hs : ax_gd cl 1 sl 6 (Q (some (ax_i 1)) μ)) : ax_Rw l G ax_h250 (ax_E G ax_h250 Q) 15 lv [] cl sl μ :=
  ax_go (cd := cd250) (N := 19) (cuts := []) ok250 cn250 9 hs
/-- cells of no kind are added -/
def nJ (μ : ax_M) (n : Nat) : ax_M := (μ.1 + n, μ.2)
theorem ax_Hd.junk {G : ax_G} {μ : ax_M} {H H1 : Heap} (h : ax_Hd G μ H) (hz : H.size ≤ H1.size) (oq : ∀ q : Nat, q < H.size → H1[q]? = H[q]?) : ax_Hd G (nJ μ (H1.size - H.size)) H1 := by
  obtain ⟨h1, h2, h3, h4, h5, h6⟩ := h
  have eN : mN (nJ μ (H1.size - H.size)) = mN μ + (H1.size - H.size) := rfl
  refine ⟨by rw [eN]; omega, by rw [eN]; omega, fun q hq => (oq q (by omega)).trans (h3 q hq), fun b hb => h4 b (by rw [eN] at hb; omega), fun b hb => ?_, h6⟩
  by_cases hlt : b < mN μ
  · have ho := oq (ax_ad G b) (by rw [ax_ad_ge hb, h2]; omega)
    obtain ⟨g1, g2, g13⟩ := h5 b hb
    exact ⟨fun q => (g1 q).kept ho, fun q1 q2 => ho.trans (g2 q1 q2), g13⟩
  · have hk := h4 b (by omega)
    refine ⟨fun q => ?_, fun q1 q2 => ?_, ?_⟩
    · have q : mK μ b < 13 := q
      omega
    · have q2 : mK μ b ≤ 28 := q2
      omega
    · show mK μ b ≠ 13
      omega
