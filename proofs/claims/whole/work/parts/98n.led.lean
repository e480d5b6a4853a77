/-! led: what it throws -/
def nse : String := "java/util/NoSuchElementException"
def nsn : List String := ["java/lang/RuntimeException", "java/lang/Exception"]
def nsw : List Cond := vx_atS "BiscuitLess" 265 nse nsn
def nsb (w : Cond) : Bool := match w with
  | .castable .. => true
  | .declares .. => true
  | _ => false
theorem ns_bad : nsw.all (fun w => goodWord w || nsb w) = true := by decide +kernel
def h165x : ax_H := ((⟨"BiscuitLess", "led", "(II)I"⟩, prog_1_method_29_code, 4, (some .int)), (10, 395, 1, 6), (2, 10, 0))
theorem ok165x : ax_okc h165x cd165 47 = true := by decide +kernel
theorem cn165x : ax_cn.getD (ax_oc h165x) "" = (ax_nm h165x).cls := by decide +kernel
def cs165 : List (Nat × List Nat) := [(34, [0, 1, 2, 3]), (45, [3])]
set_option maxRecDepth 20000 in
theorem sg165x_0 (l : Launch) (G : ax_G) (EE : Program → Env → State → MethodId → Array Value → List Frame → Method → Code → State → Prop) (b0 : Nat) (x1 : Int32) (x2 : Int32) (μ : ax_M) (hs : (mK μ b0 = 10 ∧ ax_wr (gR μ b0 1) (fun a1 => (mK μ a1 = 3 ∧ (ax_CI l G 21 [ax_r (some a1), ax_i x1] μ (fun y3 m2 => ax_br (y3 = 0) (ax_br (((-1) : Int32) = (-1)) (ax_Rw l G h165x EE 34 [(0, ax_r (some b0)), (1, ax_i x1), (2, ax_i x2), (3, ax_i (-1))] [] 0 0 m2) (ax_Rw l G h165x EE 45 [(3, ax_i (-1))] [] 0 0 m2)) (ax_br (x2 < 0) (ax_br (((-1) : Int32) = (-1)) (ax_Rw l G h165x EE 34 [(0, ax_r (some b0)), (1, ax_i x1), (2, ax_i x2), (3, ax_i (-1))] [] 0 0 m2) (ax_Rw l G h165x EE 45 [(3, ax_i (-1))] [] 0 0 m2)) ((mK m2 b0 = 10 ∧ ax_wr (gR m2 b0 4) (fun a4 => (mK m2 a4 = 1 ∧ (ax_CI l G 138 [ax_r (some a4), ax_i x1, ax_i x2] m2 (fun y6 m5 => ax_br (y6 = (-1)) (ax_Rw l G h165x EE 34 [(0, ax_r (some b0)), (1, ax_i x1), (2, ax_i x2), (3, ax_i y6)] [] 0 0 m5) (ax_Rw l G h165x EE 45 [(3, ax_i y6)] [] 0 0 m5)))))))))))))) : ax_Rw l G h165x EE 0 [(0, ax_r (some b0)), (1, ax_i x1), (2, ax_i x2)] [] 0 0 μ :=
  ax_goE (cd := cd165) (N := 47) (cuts := cs165) ok165x cn165x 22 hs
theorem sg165x_45 (l : Launch) (G : ax_G) (Q : Option ax_V → ax_M → Prop) (x3 : Int32) (μ : ax_M) (hs : (Q (some (ax_i x3)) μ)) : ax_Rw l G h165x (ax_E G h165x Q) 45 [(3, ax_i x3)] [] 0 0 μ :=
  ax_go (cd := cd165) (N := 47) (cuts := cs165) ok165x cn165x 22 hs
