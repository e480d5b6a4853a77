/-! values and memory of the abstract machine: an int, a long, or a reference by its number; a cell has a kind, a length, ints, longs and references -/
abbrev ax_V : Type := Int32 ⊕ (Int64 ⊕ Option Nat)
abbrev ax_i (x : Int32) : ax_V := .inl x
abbrev ax_l (x : Int64) : ax_V := .inr (.inl x)
abbrev ax_r (x : Option Nat) : ax_V := .inr (.inr x)
abbrev ax_M : Type := Nat × (Nat → Nat × Nat) × (Nat → Nat → Int32) × (Nat → Nat → Int64) × (Nat → Nat → Option Nat)
def mN (μ : ax_M) : Nat := μ.1
def mK (μ : ax_M) (a : Nat) : Nat := (μ.2.1 a).1
def mZ (μ : ax_M) (a : Nat) : Nat := (μ.2.1 a).2
def gI (μ : ax_M) (a k : Nat) : Int32 := μ.2.2.1 a k
def gL (μ : ax_M) (a k : Nat) : Int64 := μ.2.2.2.1 a k
def gR (μ : ax_M) (a k : Nat) : Option Nat := μ.2.2.2.2 a k
def ax_u2 {α : Type} (f : Nat → Nat → α) (a k : Nat) (v : α) : Nat → Nat → α := fun b j => if b = a ∧ j = k then v else f b j
def sI (μ : ax_M) (a k : Nat) (v : Int32) : ax_M := (μ.1, μ.2.1, ax_u2 μ.2.2.1 a k v, μ.2.2.2.1, μ.2.2.2.2)
def sL (μ : ax_M) (a k : Nat) (v : Int64) : ax_M := (μ.1, μ.2.1, μ.2.2.1, ax_u2 μ.2.2.2.1 a k v, μ.2.2.2.2)
def sR (μ : ax_M) (a k : Nat) (v : Option Nat) : ax_M := (μ.1, μ.2.1, μ.2.2.1, μ.2.2.2.1, ax_u2 μ.2.2.2.2 a k v)
/-- a new cell of kind k and length z -/
def nC (μ : ax_M) (k z : Nat) : ax_M := (μ.1 + 1, (fun b => if b = μ.1 then (k, z) else μ.2.1 b), (fun b j => if b = μ.1 then 0 else μ.2.2.1 b j), (fun b j => if b = μ.1 then 0 else μ.2.2.2.1 b j), (fun b j => if b = μ.1 then none else μ.2.2.2.2 b j))
/-- a new array of n rows of z ints each -/
def nG (μ : ax_M) (n z : Nat) : ax_M := (μ.1 + 1 + n, (fun b => if b = μ.1 then (28, n) else if μ.1 < b ∧ b < μ.1 + 1 + n then (21, z) else μ.2.1 b), (fun b j => if μ.1 ≤ b ∧ b < μ.1 + 1 + n then 0 else μ.2.2.1 b j), (fun b j => if μ.1 ≤ b ∧ b < μ.1 + 1 + n then 0 else μ.2.2.2.1 b j), (fun b j => if b = μ.1 then (if j < n then some (μ.1 + 1 + j) else none) else if μ.1 < b ∧ b < μ.1 + 1 + n then none else μ.2.2.2.2 b j))
/-! where the cells lie: class numbers and slots; array classes; the first new address; constants' addresses; the heap at the law's start; the one reference of which nothing is known; the constants' cells -/
abbrev ax_G : Type := va_G × (Nat → ClassId) × Nat × (Nat → Nat) × Heap × Option Nat × ax_M
abbrev ax_D (G : ax_G) : va_G := G.1
abbrev ax_Y (G : ax_G) : Nat → ClassId := G.2.1
abbrev ax_B (G : ax_G) : Nat := G.2.2.1
abbrev ax_C (G : ax_G) : Nat → Nat := G.2.2.2.1
abbrev ax_Hb (G : ax_G) : Heap := G.2.2.2.2.1
abbrev ax_F (G : ax_G) : Option Nat := G.2.2.2.2.2.1
abbrev ax_0 (G : ax_G) : ax_M := G.2.2.2.2.2.2
/-- the address of a cell: those below 64 are constants -/
def ax_ad (G : ax_G) (a : Nat) : Nat := if a < 64 then ax_C G a else ax_B G + (a - 64)
def ax_ao (G : ax_G) (x : Option Nat) : Option Nat := match x with
  | none => none
  | some a => if a = 6 then ax_F G else some (ax_ad G a)
def ax_cv (G : ax_G) (v : ax_V) : Value := match v with
  | .inl x => .int x
  | .inr (.inl x) => .long x
  | .inr (.inr x) => va_rf (ax_ao G x)
theorem ax_cv_i (G : ax_G) (x : Int32) : ax_cv G (ax_i x) = .int x := rfl
theorem ax_cv_l (G : ax_G) (x : Int64) : ax_cv G (ax_l x) = .long x := rfl
theorem ax_cv_r (G : ax_G) (x : Option Nat) : ax_cv G (ax_r x) = va_rf (ax_ao G x) := rfl
def ax_nf (c : Nat) : Nat := ((ax_cl.getD c ("", fun _ => ("", "", "", false), 0)).2.2)
def ax_Tb (c : Nat) : u_T := (ax_cl.getD c ("", fun _ => ("", "", "", false), 0)).2.1
def ax_Cn (c : Nat) : String := (ax_cl.getD c ("", fun _ => ("", "", "", false), 0)).1
def ax_ft (c k : Nat) : Nat := (ax_fl.getD c []).getD k 0
def ax_fy (c k : Nat) : FieldType := (ax_fd.getD c []).getD k .int
def ax_aT (k : Nat) : FieldType := ax_al.getD (k - 20) .int
/-- what field j of cell a holds, by its sort -/
def ax_fv (G : ax_G) (μ : ax_M) (a j t : Nat) : Value := match t with
  | 0 => .int (gI μ a j)
  | 1 => .long (gL μ a j)
  | _ => va_rf (ax_ao G (gR μ a j))
def ax_av (G : ax_G) (μ : ax_M) (k a j : Nat) : Value := if k = 22 then .long (gL μ a j) else if k < 24 then .int (gI μ a j) else va_rf (ax_ao G (gR μ a j))
/-- the heap holds cell a -/
def ax_at (G : ax_G) (μ : ax_M) (a : Nat) (H : Heap) : Prop :=
  (mK μ a < 13 → t_OB (ax_ad G a) ((ax_D G).1 (mK μ a)) (ax_nf (mK μ a)) ((ax_D G).2 (mK μ a)) H (fun j => ax_fv G μ a j (ax_ft (mK μ a) j))) ∧
  (20 ≤ mK μ a → mK μ a ≤ 28 → H[ax_ad G a]? = some (arrV (ax_Y G (mK μ a)) (mZ μ a) (fun j => ax_av G μ (mK μ a) a j))) ∧ mK μ a ≠ 13
/-- the heap is what the memory says -/
def ax_Hd (G : ax_G) (μ : ax_M) (H : Heap) : Prop :=
  64 ≤ mN μ ∧ H.size = ax_B G + (mN μ - 64) ∧ (∀ q : Nat, q < ax_B G → H[q]? = (ax_Hb G)[q]?) ∧ (∀ a : Nat, mN μ ≤ a → mK μ a = 99) ∧ (∀ a : Nat, 64 ≤ a → ax_at G μ a H) ∧
  (∀ a : Nat, a < 64 → μ.2.1 a = (ax_0 G).2.1 a ∧ (∀ j, gI μ a j = gI (ax_0 G) a j) ∧ (∀ j, gL μ a j = gL (ax_0 G) a j) ∧ (∀ j, gR μ a j = gR (ax_0 G) a j))
/-- the constants in the heap at the start -/
def ax_cf (G : ax_G) (a : Nat) (U : State) : Prop :=
  (mK (ax_0 G) a = 13 → va_O "java/lang/String" (ax_C G a) (fun q => ax_B G ≤ q) U (ax_Hb G) ∧ va_OF "java/lang/String" "coder" "B" (.int (gI (ax_0 G) a 1)) (ax_C G a) (fun q => ax_B G ≤ q) U (ax_Hb G) ∧ va_OF "java/lang/String" "value" "[B" (va_rf (ax_ao G (gR (ax_0 G) a 0))) (ax_C G a) (fun q => ax_B G ≤ q) U (ax_Hb G)) ∧
  (20 ≤ mK (ax_0 G) a → mK (ax_0 G) a ≤ 22 → va_T (ax_aT (mK (ax_0 G) a)) (ax_C G a) (mZ (ax_0 G) a) (fun j => ax_av G (ax_0 G) (mK (ax_0 G) a) a j) (fun q => ax_B G ≤ q) U (ax_Hb G)) ∧
  (mK (ax_0 G) a = 13 ∨ (20 ≤ mK (ax_0 G) a ∧ mK (ax_0 G) a ≤ 22) ∨ mK (ax_0 G) a = 99)
