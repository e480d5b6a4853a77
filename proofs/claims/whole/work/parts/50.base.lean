/-! reading what was written -/
theorem kI (μ : ax_M) (a k : Nat) (v : Int32) (b : Nat) : mK (sI μ a k v) b = mK μ b := rfl
theorem kL (μ : ax_M) (a k : Nat) (v : Int64) (b : Nat) : mK (sL μ a k v) b = mK μ b := rfl
theorem kR (μ : ax_M) (a k : Nat) (v : Option Nat) (b : Nat) : mK (sR μ a k v) b = mK μ b := rfl
theorem zI (μ : ax_M) (a k : Nat) (v : Int32) (b : Nat) : mZ (sI μ a k v) b = mZ μ b := rfl
theorem zL (μ : ax_M) (a k : Nat) (v : Int64) (b : Nat) : mZ (sL μ a k v) b = mZ μ b := rfl
theorem zR (μ : ax_M) (a k : Nat) (v : Option Nat) (b : Nat) : mZ (sR μ a k v) b = mZ μ b := rfl
theorem nnI (μ : ax_M) (a k : Nat) (v : Int32) : mN (sI μ a k v) = mN μ := rfl
theorem nnL (μ : ax_M) (a k : Nat) (v : Int64) : mN (sL μ a k v) = mN μ := rfl
theorem nnR (μ : ax_M) (a k : Nat) (v : Option Nat) : mN (sR μ a k v) = mN μ := rfl
theorem iL (μ : ax_M) (a k : Nat) (v : Int64) (b j : Nat) : gI (sL μ a k v) b j = gI μ b j := rfl
theorem iR (μ : ax_M) (a k : Nat) (v : Option Nat) (b j : Nat) : gI (sR μ a k v) b j = gI μ b j := rfl
theorem lI (μ : ax_M) (a k : Nat) (v : Int32) (b j : Nat) : gL (sI μ a k v) b j = gL μ b j := rfl
theorem lR (μ : ax_M) (a k : Nat) (v : Option Nat) (b j : Nat) : gL (sR μ a k v) b j = gL μ b j := rfl
theorem rI (μ : ax_M) (a k : Nat) (v : Int32) (b j : Nat) : gR (sI μ a k v) b j = gR μ b j := rfl
theorem rL (μ : ax_M) (a k : Nat) (v : Int64) (b j : Nat) : gR (sL μ a k v) b j = gR μ b j := rfl
theorem iI (μ : ax_M) (a k : Nat) (v : Int32) (b j : Nat) : gI (sI μ a k v) b j = if b = a ∧ j = k then v else gI μ b j := rfl
theorem lL (μ : ax_M) (a k : Nat) (v : Int64) (b j : Nat) : gL (sL μ a k v) b j = if b = a ∧ j = k then v else gL μ b j := rfl
theorem rR (μ : ax_M) (a k : Nat) (v : Option Nat) (b j : Nat) : gR (sR μ a k v) b j = if b = a ∧ j = k then v else gR μ b j := rfl
theorem iI_s (μ : ax_M) (a k : Nat) (v : Int32) : gI (sI μ a k v) a k = v := by rw [iI, if_pos ⟨rfl, rfl⟩]
theorem iI_n {μ : ax_M} {a k : Nat} {v : Int32} {b j : Nat} (h : b ≠ a ∨ j ≠ k) : gI (sI μ a k v) b j = gI μ b j := by
  rw [iI, if_neg]
  rintro ⟨h1, h2⟩
  rcases h with h | h
  · exact h h1
  · exact h h2
theorem lL_s (μ : ax_M) (a k : Nat) (v : Int64) : gL (sL μ a k v) a k = v := by rw [lL, if_pos ⟨rfl, rfl⟩]
theorem lL_n {μ : ax_M} {a k : Nat} {v : Int64} {b j : Nat} (h : b ≠ a ∨ j ≠ k) : gL (sL μ a k v) b j = gL μ b j := by
  rw [lL, if_neg]
  rintro ⟨h1, h2⟩
  rcases h with h | h
  · exact h h1
  · exact h h2
theorem rR_s (μ : ax_M) (a k : Nat) (v : Option Nat) : gR (sR μ a k v) a k = v := by rw [rR, if_pos ⟨rfl, rfl⟩]
theorem rR_n {μ : ax_M} {a k : Nat} {v : Option Nat} {b j : Nat} (h : b ≠ a ∨ j ≠ k) : gR (sR μ a k v) b j = gR μ b j := by
  rw [rR, if_neg]
  rintro ⟨h1, h2⟩
  rcases h with h | h
  · exact h h1
  · exact h h2
/-! truth as an int -/
def bI (b : Bool) : Int32 := cond b 1 0
theorem bI_t : bI true = 1 := rfl
theorem bI_f : bI false = 0 := rfl
theorem bI_01 (b : Bool) : bI b = 0 ∨ bI b = 1 := by cases b; exact Or.inl rfl; exact Or.inr rfl
theorem bI_0 {b : Bool} : bI b = 0 ↔ b = false := by cases b <;> decide
theorem br_b {b : Bool} {A B : Prop} (hf : b = false → A) (ht : b = true → B) : ax_br (bI b = 0) A B := by
  cases b
  · exact ⟨fun _ => hf rfl, fun h => absurd rfl h⟩
  · exact ⟨fun h => absurd h (by decide), fun _ => ht rfl⟩
theorem ax_brt {c A B : Prop} (h : c) (a : A) : ax_br c A B := ⟨fun _ => a, fun n => absurd h n⟩
theorem ax_brf {c A B : Prop} (h : ¬ c) (b : B) : ax_br c A B := ⟨fun q => absurd q h, fun _ => b⟩
theorem ax_brc {c A B : Prop} (a : c → A) (b : ¬ c → B) : ax_br c A B := ⟨a, b⟩
theorem br_lt {x y : Int32} {A B : Prop} (a b : Nat) (hx : x = nI a) (hy : y = nI b) (ha : a < 2 ^ 31) (hb : b < 2 ^ 31) (t : a < b → A) (f : b ≤ a → B) : ax_br (x < y) A B := by
  subst hx; subst hy
  exact ⟨fun q => t ((nI_ltI ha hb).mp q), fun q => f (Nat.le_of_not_lt (fun z => q ((nI_ltI ha hb).mpr z)))⟩
theorem br_le {x y : Int32} {A B : Prop} (a b : Nat) (hx : x = nI a) (hy : y = nI b) (ha : a < 2 ^ 31) (hb : b < 2 ^ 31) (t : a ≤ b → A) (f : b < a → B) : ax_br (x ≤ y) A B := by
  subst hx; subst hy
  exact ⟨fun q => t ((nI_leI ha hb).mp q), fun q => f (Nat.lt_of_not_le (fun z => q ((nI_leI ha hb).mpr z)))⟩
theorem br_eq {x y : Int32} {A B : Prop} (a b : Nat) (hx : x = nI a) (hy : y = nI b) (ha : a < 2 ^ 31) (hb : b < 2 ^ 31) (t : a = b → A) (f : a ≠ b → B) : ax_br (x = y) A B := by
  subst hx; subst hy
  exact ⟨fun q => t ((nI_eq ha hb).mp q), fun q => f (fun z => q ((nI_eq ha hb).mpr z))⟩
/-- an int is one of the first n -/
def inN (x : Int32) (n : Nat) : Bool := decide (¬ x < 0) && decide (x < nI n)
theorem inN_t {x : Int32} {n : Nat} (hn : n < 2 ^ 31) (h : inN x n = true) : ∃ j, j < n ∧ x = nI j := by
  simp only [inN, Bool.and_eq_true, decide_eq_true_eq] at h
  obtain ⟨j, hj, rfl⟩ := nI_of h.1
  exact ⟨j, (nI_ltI hj hn).mp h.2, rfl⟩
theorem inN_of {j n : Nat} (h : j < n) (hn : n < 2 ^ 31) : inN (nI j) n = true := by
  simp only [inN, Bool.and_eq_true, decide_eq_true_eq]
  exact ⟨nI_pos (by omega), nI_lt h hn⟩
theorem clN {j : Nat} (h : j < 2 ^ 31) : Int32.toNatClampNeg (nI j) = j := nI_clamp h
/-! counting loops: up to n -/
theorem up_to {P : Nat → Prop} (n : Nat) (hn : P n) (hs : ∀ k, k < n → P (k + 1) → P k) : ∀ k, k ≤ n → P k := by
  intro k hk
  obtain ⟨d, rfl⟩ : ∃ d, n = k + d := ⟨n - k, by omega⟩
  induction d generalizing k with
  | zero => exact hn
  | succ d ih => exact hs k (by omega) (ih (k + 1) (by rwa [show k + 1 + d = k + (d + 1) by omega]) (fun j hj h => hs j (by omega) h) (by omega))
