/-! a method's head: name, bytes, locals, answer; frames and locals' words that it needs, cells and slots that it may make; its parameters, its class (by ax_cn), the sort of its answer (0 int, 1 long, 2 none) -/
abbrev ax_H : Type := (MethodName × ByteArray × Nat × Option FieldType) × (Nat × Nat × Nat × Nat) × (Nat × Nat × Nat)
abbrev ax_nm (h : ax_H) : MethodName := h.1.1
abbrev ax_by (h : ax_H) : ByteArray := h.1.2.1
abbrev ax_ml (h : ax_H) : Nat := h.1.2.2.1
abbrev ax_rt (h : ax_H) : Option FieldType := h.1.2.2.2
abbrev ax_mc (h : ax_H) : Nat := h.2.1.2.2.1
abbrev ax_ms (h : ax_H) : Nat := h.2.1.2.2.2
abbrev ax_np (h : ax_H) : Nat := h.2.2.1
abbrev ax_oc (h : ax_H) : Nat := h.2.2.2.1
abbrev ax_rc (h : ax_H) : Nat := h.2.2.2.2
abbrev ax_rm (h : ax_H) : Room := { frames := h.2.1.1, cells := h.2.1.2.2.1, slots := h.2.1.2.2.2, locals := h.2.1.2.1 }
/-- an instruction: what it decodes to, its length, what its numbers stand for, the constant that it pushes -/
abbrev ax_X : Type := Instr × Nat × List Nat × ax_V
abbrev ax_p (E : ax_X) (n : Nat) : Nat := E.2.2.1.getD n 0
abbrev ax_L : Type := List (Nat × ax_V)
abbrev ax_K : Type := Nat → ax_L → List ax_V → Nat → Nat → ax_M → Prop
def ax_lk : ax_L → Nat → Option ax_V
  | [], _ => none
  | q :: l, i => if q.1 = i then some q.2 else ax_lk l i
def ax_cat (v : ax_V) : Nat := match v with
  | .inr (.inl _) => 2
  | _ => 1
def ax_sto (lv : ax_L) (i : Nat) (v : ax_V) : ax_L := match v with
  | .inr (.inl x) => (i, ax_l x) :: lv.filter (fun q => !(q.1 == i) && (!(q.1 == i + 1) && !(q.1 + 1 == i && ax_cat q.2 == 2)))
  | w => (i, w) :: lv.filter (fun q => !(q.1 == i) && !(q.1 + 1 == i && ax_cat q.2 == 2))
/-- the locals at a method's entry -/
def ax_ent : Nat → List ax_V → ax_L
  | _, [] => []
  | i, v :: vs => (i, v) :: ax_ent (i + ax_cat v) vs
def ax_sum : List ax_V → Nat
  | [] => 0
  | v :: vs => ax_cat v + ax_sum vs
/-- a reference that isn't null -/
def ax_wr (x : Option Nat) (f : Nat → Prop) : Prop := match x with
  | some a => f a
  | none => False
def ax_br (c A B : Prop) : Prop := (c → A) ∧ (¬ c → B)
/-- the room is there -/
def ax_gd (a b c d : Nat) (P : Prop) : Prop := cond (Nat.ble a b && Nat.ble c d) P False
theorem ax_gd.of {a b c d : Nat} {P : Prop} (h : ax_gd a b c d P) : (a ≤ b ∧ c ≤ d) ∧ P := by
  unfold ax_gd at h
  cases h1 : Nat.ble a b with
  | false => rw [h1] at h; exact h.elim
  | true =>
    cases h2 : Nat.ble c d with
    | false => rw [h1, h2] at h; exact h.elim
    | true => rw [h1, h2] at h; exact ⟨⟨Nat.le_of_ble_eq_true h1, Nat.le_of_ble_eq_true h2⟩, h⟩
theorem ax_gd.mk {a b c d : Nat} {P : Prop} (h1 : a ≤ b) (h2 : c ≤ d) (h : P) : ax_gd a b c d P := by
  unfold ax_gd
  rw [Nat.ble_eq_true_of_le h1, Nat.ble_eq_true_of_le h2]
  exact h
/-- a switch: the first value that fits -/
def ax_sw (x : Int32) (d : Nat) (k : Nat → Prop) : Nat → List Nat → Prop
  | _, [] => k d
  | v, t :: ts => ax_br (x = nI v) (k t) (ax_sw x d k (v + 1) ts)
/-- the first n of a stack, turned, and the rest -/
def ax_pop : Nat → List ax_V → List ax_V → Option (List ax_V × List ax_V)
  | 0, acc, st => some (acc, st)
  | n + 1, acc, v :: st => ax_pop n (v :: acc) st
  | _ + 1, _, [] => none
def ax_ty (k : ArrayType) : Nat := match k with
  | .byte => 20
  | .int => 21
  | .long => 22
  | .boolean => 23
  | _ => 99
section Step
variable (C : Nat → List ax_V → ax_M → (Option ax_V → ax_M → Prop) → Prop) (tb : Nat → ax_H)
/-- a call's answer, by its sort, on the stack -/
def ax_ans (t : Nat) (st : List ax_V) (K : List ax_V → ax_M → Prop) : Option ax_V → ax_M → Prop := fun x μ => match t with
  | 0 => ∃ y : Int32, x = some (ax_i y) ∧ K (ax_i y :: st) μ
  | 1 => ∃ y : Int64, x = some (ax_l y) ∧ K (ax_l y :: st) μ
  | _ => x = none ∧ K st μ
def ax_call (h : ax_H) (y : Nat) (as st : List ax_V) (cl sl : Nat) (μ : ax_M) (K : List ax_V → Nat → Nat → ax_M → Prop) : Prop :=
  cond (Nat.ble (ax_sum st) 8) (ax_gd (cl + ax_mc (tb y)) (ax_mc h) (sl + ax_ms (tb y)) (ax_ms h) (C y as μ (ax_ans (ax_rc (tb y)) st (fun st' μ' => K st' (cl + ax_mc (tb y)) (sl + ax_ms (tb y)) μ')))) False
/-- one instruction, goal first: K is what must hold at the next, Z what must hold of the answer -/
def ax_step (h : ax_H) (E : ax_X) (pc : Nat) (lv : ax_L) (st : List ax_V) (cl sl : Nat) (μ : ax_M) (K : ax_K) (Z : Option ax_V → ax_M → Prop) : Prop :=
  match E.1 with
  | .iconst _ | .bipush _ | .sipush _ | .lconst _ | .ldc _ | .ldc_w _ | .ldc2_w _ | .getstatic _ => K (pc + E.2.1) lv (E.2.2.2 :: st) cl sl μ
  | .iload _ | .iload_n _ => (match ax_lk lv (ax_p E 0) with
    | some (.inl x) => K (pc + E.2.1) lv (ax_i x :: st) cl sl μ
    | _ => False)
  | .lload _ | .lload_n _ => (match ax_lk lv (ax_p E 0) with
    | some (.inr (.inl x)) => K (pc + E.2.1) lv (ax_l x :: st) cl sl μ
    | _ => False)
  | .aload _ | .aload_n _ => (match ax_lk lv (ax_p E 0) with
    | some (.inr (.inr x)) => K (pc + E.2.1) lv (ax_r x :: st) cl sl μ
    | _ => False)
  | .istore _ | .istore_n _ => (match st with
    | .inl x :: st => cond (Nat.beq (ax_p E 1) 1) (∀ z : Int32, z = x → K (pc + E.2.1) (ax_sto lv (ax_p E 0) (ax_i z)) st cl sl μ) (K (pc + E.2.1) (ax_sto lv (ax_p E 0) (ax_i x)) st cl sl μ)
    | _ => False)
  | .lstore _ | .lstore_n _ => (match st with
    | .inr (.inl x) :: st => cond (Nat.beq (ax_p E 1) 1) (∀ z : Int64, z = x → K (pc + E.2.1) (ax_sto lv (ax_p E 0) (ax_l z)) st cl sl μ) (K (pc + E.2.1) (ax_sto lv (ax_p E 0) (ax_l x)) st cl sl μ)
    | _ => False)
  | .astore _ | .astore_n _ => (match st with
    | .inr (.inr x) :: st => K (pc + E.2.1) (ax_sto lv (ax_p E 0) (ax_r x)) st cl sl μ
    | _ => False)
  | .iinc _ _ => (match ax_lk lv (ax_p E 0), E.2.2.2 with
    | some (.inl x), .inl d => K (pc + E.2.1) (ax_sto lv (ax_p E 0) (ax_i (x + d))) st cl sl μ
    | _, _ => False)
  | .iadd => (match st with
    | .inl y :: .inl x :: st => K (pc + E.2.1) lv (ax_i (x + y) :: st) cl sl μ
    | _ => False)
  | .isub => (match st with
    | .inl y :: .inl x :: st => K (pc + E.2.1) lv (ax_i (x - y) :: st) cl sl μ
    | _ => False)
  | .imul => (match st with
    | .inl y :: .inl x :: st => K (pc + E.2.1) lv (ax_i (x * y) :: st) cl sl μ
    | _ => False)
  | .idiv => (match st with
    | .inl y :: .inl x :: st => ¬ y = 0 ∧ K (pc + E.2.1) lv (ax_i (x / y) :: st) cl sl μ
    | _ => False)
  | .irem => (match st with
    | .inl y :: .inl x :: st => ¬ y = 0 ∧ K (pc + E.2.1) lv (ax_i (x - x / y * y) :: st) cl sl μ
    | _ => False)
  | .ineg => (match st with
    | .inl x :: st => K (pc + E.2.1) lv (ax_i (-x) :: st) cl sl μ
    | _ => False)
  | .iand => (match st with
    | .inl y :: .inl x :: st => K (pc + E.2.1) lv (ax_i (x &&& y) :: st) cl sl μ
    | _ => False)
  | .ishl => (match st with
    | .inl y :: .inl x :: st => K (pc + E.2.1) lv (ax_i (x <<< (y &&& 31)) :: st) cl sl μ
    | _ => False)
  | .ishr => (match st with
    | .inl y :: .inl x :: st => K (pc + E.2.1) lv (ax_i (x >>> (y &&& 31)) :: st) cl sl μ
    | _ => False)
  | .iushr => (match st with
    | .inl y :: .inl x :: st => K (pc + E.2.1) lv (ax_i ((x.toUInt32 >>> (y.toUInt32 &&& Int32.toUInt32 31)).toInt32) :: st) cl sl μ
    | _ => False)
  | .ladd => (match st with
    | .inr (.inl y) :: .inr (.inl x) :: st => K (pc + E.2.1) lv (ax_l (x + y) :: st) cl sl μ
    | _ => False)
  | .lmul => (match st with
    | .inr (.inl y) :: .inr (.inl x) :: st => K (pc + E.2.1) lv (ax_l (x * y) :: st) cl sl μ
    | _ => False)
  | .ldiv => (match st with
    | .inr (.inl y) :: .inr (.inl x) :: st => ¬ y = 0 ∧ K (pc + E.2.1) lv (ax_l (x / y) :: st) cl sl μ
    | _ => False)
  | .lor => (match st with
    | .inr (.inl y) :: .inr (.inl x) :: st => K (pc + E.2.1) lv (ax_l (x ||| y) :: st) cl sl μ
    | _ => False)
  | .lshl => (match st with
    | .inl y :: .inr (.inl x) :: st => K (pc + E.2.1) lv (ax_l (x <<< (y.toInt64 &&& 63)) :: st) cl sl μ
    | _ => False)
  | .lcmp => (match st with
    | .inr (.inl y) :: .inr (.inl x) :: st => K (pc + E.2.1) lv (ax_i (lg_cmp x y) :: st) cl sl μ
    | _ => False)
  | .i2l => (match st with
    | .inl x :: st => K (pc + E.2.1) lv (ax_l x.toInt64 :: st) cl sl μ
    | _ => False)
  | .l2i => (match st with
    | .inr (.inl x) :: st => K (pc + E.2.1) lv (ax_i x.toInt32 :: st) cl sl μ
    | _ => False)
  | .i2b => (match st with
    | .inl x :: st => K (pc + E.2.1) lv (ax_i x.toInt8.toInt32 :: st) cl sl μ
    | _ => False)
  | .i2c => (match st with
    | .inl x :: st => K (pc + E.2.1) lv (ax_i (x.toUInt32 % 65536).toInt32 :: st) cl sl μ
    | _ => False)
  | .dup => (match st with
    | .inl x :: st => K (pc + E.2.1) lv (ax_i x :: ax_i x :: st) cl sl μ
    | .inr (.inr x) :: st => K (pc + E.2.1) lv (ax_r x :: ax_r x :: st) cl sl μ
    | _ => False)
  | .dup2 => (match st with
    | .inl y :: .inr (.inr x) :: st => K (pc + E.2.1) lv (ax_i y :: ax_r x :: ax_i y :: ax_r x :: st) cl sl μ
    | _ => False)
  | .pop => (match st with
    | .inl _ :: st => K (pc + E.2.1) lv st cl sl μ
    | .inr (.inr _) :: st => K (pc + E.2.1) lv st cl sl μ
    | _ => False)
  | .goto _ => K (ax_p E 0) lv st cl sl μ
  | .ifCond .eq _ => (match st with
    | .inl x :: st => ax_br (x = 0) (K (ax_p E 0) lv st cl sl μ) (K (pc + 3) lv st cl sl μ)
    | _ => False)
  | .ifCond .ne _ => (match st with
    | .inl x :: st => ax_br (x = 0) (K (pc + 3) lv st cl sl μ) (K (ax_p E 0) lv st cl sl μ)
    | _ => False)
  | .ifCond .lt _ => (match st with
    | .inl x :: st => ax_br (x < 0) (K (ax_p E 0) lv st cl sl μ) (K (pc + 3) lv st cl sl μ)
    | _ => False)
  | .ifCond .ge _ => (match st with
    | .inl x :: st => ax_br (x < 0) (K (pc + 3) lv st cl sl μ) (K (ax_p E 0) lv st cl sl μ)
    | _ => False)
  | .ifCond .gt _ => (match st with
    | .inl x :: st => ax_br (x ≤ 0) (K (pc + 3) lv st cl sl μ) (K (ax_p E 0) lv st cl sl μ)
    | _ => False)
  | .ifCond .le _ => (match st with
    | .inl x :: st => ax_br (x ≤ 0) (K (ax_p E 0) lv st cl sl μ) (K (pc + 3) lv st cl sl μ)
    | _ => False)
  | .if_icmp .eq _ => (match st with
    | .inl y :: .inl x :: st => ax_br (x = y) (K (ax_p E 0) lv st cl sl μ) (K (pc + 3) lv st cl sl μ)
    | _ => False)
  | .if_icmp .ne _ => (match st with
    | .inl y :: .inl x :: st => ax_br (x = y) (K (pc + 3) lv st cl sl μ) (K (ax_p E 0) lv st cl sl μ)
    | _ => False)
  | .if_icmp .lt _ => (match st with
    | .inl y :: .inl x :: st => ax_br (x < y) (K (ax_p E 0) lv st cl sl μ) (K (pc + 3) lv st cl sl μ)
    | _ => False)
  | .if_icmp .ge _ => (match st with
    | .inl y :: .inl x :: st => ax_br (x < y) (K (pc + 3) lv st cl sl μ) (K (ax_p E 0) lv st cl sl μ)
    | _ => False)
  | .if_icmp .gt _ => (match st with
    | .inl y :: .inl x :: st => ax_br (x ≤ y) (K (pc + 3) lv st cl sl μ) (K (ax_p E 0) lv st cl sl μ)
    | _ => False)
  | .if_icmp .le _ => (match st with
    | .inl y :: .inl x :: st => ax_br (x ≤ y) (K (ax_p E 0) lv st cl sl μ) (K (pc + 3) lv st cl sl μ)
    | _ => False)
  | .ifnull _ => (match st with
    | .inr (.inr x) :: st => ax_br (x = none) (K (ax_p E 0) lv st cl sl μ) (x ≠ some 6 ∧ K (pc + 3) lv st cl sl μ)
    | _ => False)
  | .ifnonnull _ => (match st with
    | .inr (.inr x) :: st => ax_br (x = none) (K (pc + 3) lv st cl sl μ) (x ≠ some 6 ∧ K (ax_p E 0) lv st cl sl μ)
    | _ => False)
  | .tableswitch _ _ _ _ => (match st with
    | .inl x :: st => ax_sw x (ax_p E 0) (fun t => K t lv st cl sl μ) (ax_p E 1) (E.2.2.1.drop 2)
    | _ => False)
  | .getfield _ => (match st with
    | .inr (.inr x) :: st => ax_wr x (fun a => mK μ a = ax_p E 1 ∧ (match ax_p E 3 with
      | 0 => K (pc + 3) lv (ax_i (gI μ a (ax_p E 2)) :: st) cl sl μ
      | 1 => K (pc + 3) lv (ax_l (gL μ a (ax_p E 2)) :: st) cl sl μ
      | _ => K (pc + 3) lv (ax_r (gR μ a (ax_p E 2)) :: st) cl sl μ))
    | _ => False)
  | .putfield _ => (match st with
    | .inl v :: .inr (.inr x) :: st => ax_wr x (fun a => (64 ≤ a ∧ mK μ a = ax_p E 1) ∧ cond (Nat.beq (ax_p E 3) 0) (K (pc + 3) lv st cl sl (sI μ a (ax_p E 2) v)) False)
    | .inr (.inl v) :: .inr (.inr x) :: st => ax_wr x (fun a => (64 ≤ a ∧ mK μ a = ax_p E 1) ∧ cond (Nat.beq (ax_p E 3) 1) (K (pc + 3) lv st cl sl (sL μ a (ax_p E 2) v)) False)
    | .inr (.inr v) :: .inr (.inr x) :: st => ax_wr x (fun a => (64 ≤ a ∧ mK μ a = ax_p E 1) ∧ cond (Nat.beq (ax_p E 3) 2) (K (pc + 3) lv st cl sl (sR μ a (ax_p E 2) v)) False)
    | _ => False)
  | .iaload => (match st with
    | .inl i :: .inr (.inr x) :: st => ax_wr x (fun a => (mK μ a = 21 ∧ vp_in i (mZ μ a)) ∧ K (pc + 1) lv (ax_i (gI μ a i.toNatClampNeg) :: st) cl sl μ)
    | _ => False)
  | .laload => (match st with
    | .inl i :: .inr (.inr x) :: st => ax_wr x (fun a => (mK μ a = 22 ∧ vp_in i (mZ μ a)) ∧ K (pc + 1) lv (ax_l (gL μ a i.toNatClampNeg) :: st) cl sl μ)
    | _ => False)
  | .baload => (match st with
    | .inl i :: .inr (.inr x) :: st => ax_wr x (fun a => (mK μ a = ax_p E 0 ∧ vp_in i (mZ μ a)) ∧ K (pc + 1) lv (ax_i (gI μ a i.toNatClampNeg) :: st) cl sl μ)
    | _ => False)
  | .aaload => (match st with
    | .inl i :: .inr (.inr x) :: st => ax_wr x (fun a => (mK μ a = ax_p E 0 ∧ vp_in i (mZ μ a)) ∧ K (pc + 1) lv (ax_r (gR μ a i.toNatClampNeg) :: st) cl sl μ)
    | _ => False)
  | .iastore => (match st with
    | .inl v :: .inl i :: .inr (.inr x) :: st => ax_wr x (fun a => (64 ≤ a ∧ mK μ a = 21 ∧ vp_in i (mZ μ a)) ∧ K (pc + 1) lv st cl sl (sI μ a i.toNatClampNeg v))
    | _ => False)
  | .lastore => (match st with
    | .inr (.inl v) :: .inl i :: .inr (.inr x) :: st => ax_wr x (fun a => (64 ≤ a ∧ mK μ a = 22 ∧ vp_in i (mZ μ a)) ∧ K (pc + 1) lv st cl sl (sL μ a i.toNatClampNeg v))
    | _ => False)
  | .bastore => (match st with
    | .inl v :: .inl i :: .inr (.inr x) :: st => ax_wr x (fun a => (64 ≤ a ∧ mK μ a = ax_p E 0 ∧ vp_in i (mZ μ a)) ∧ cond (Nat.beq (ax_p E 0) 20) (K (pc + 1) lv st cl sl (sI μ a i.toNatClampNeg v.toInt8.toInt32)) ((v = 0 ∨ v = 1) ∧ K (pc + 1) lv st cl sl (sI μ a i.toNatClampNeg v)))
    | _ => False)
  | .aastore => (match st with
    | .inr (.inr v) :: .inl i :: .inr (.inr x) :: st => ax_wr x (fun a => ax_wr v (fun b => (64 ≤ a ∧ mK μ a = ax_p E 0 ∧ vp_in i (mZ μ a) ∧ 64 ≤ b ∧ mK μ b = ax_p E 1) ∧ K (pc + 1) lv st cl sl (sR μ a i.toNatClampNeg (some b))))
    | _ => False)
  | .arraylength => (match st with
    | .inr (.inr x) :: st => ax_wr x (fun a => (20 ≤ mK μ a ∧ mK μ a ≤ 28) ∧ K (pc + 1) lv (ax_i (nI (mZ μ a)) :: st) cl sl μ)
    | _ => False)
  | .new _ => ax_gd (cl + 1) (ax_mc h) (sl + ax_nf (ax_p E 1)) (ax_ms h) (K (pc + 3) lv (ax_r (some (mN μ)) :: st) (cl + 1) (sl + ax_nf (ax_p E 1)) (nC μ (ax_p E 1) 0))
  | .newarray _ => (match st with
    | .inl n :: st => (¬ n < 0 ∧ n.toNatClampNeg ≤ 1000) ∧ ax_gd (cl + 1) (ax_mc h) (sl + n.toNatClampNeg) (ax_ms h) (K (pc + 2) lv (ax_r (some (mN μ)) :: st) (cl + 1) (sl + n.toNatClampNeg) (nC μ (ax_p E 0) n.toNatClampNeg))
    | _ => False)
  | .anewarray _ => (match st with
    | .inl n :: st => (¬ n < 0 ∧ n.toNatClampNeg ≤ 1000) ∧ ax_gd (cl + 1) (ax_mc h) (sl + n.toNatClampNeg) (ax_ms h) (K (pc + 3) lv (ax_r (some (mN μ)) :: st) (cl + 1) (sl + n.toNatClampNeg) (nC μ (ax_p E 1) n.toNatClampNeg))
    | _ => False)
  | .invokevirtual _ => (match ax_pop (ax_np (tb (ax_p E 1))) [] st with
    | some (as, .inr (.inr x) :: st) => ax_wr x (fun a => mK μ a = ax_p E 2 ∧ ax_call C tb h (ax_p E 1) (ax_r (some a) :: as) st cl sl μ (K (pc + 3) lv))
    | _ => False)
  | .invokestatic _ => cond (Nat.ble 9990 (ax_p E 1))
    (cond (Nat.beq (ax_p E 1) 9990)
      (match st with
        | .inl x :: st => cond (Nat.ble (ax_sum st) 8) (ax_gd cl (ax_mc h) sl (ax_ms h) (K (pc + 3) lv (ax_i (if 0 ≤ x then x else 0 - x) :: st) cl sl μ)) False
        | _ => False)
      (cond (Nat.beq (ax_p E 1) 9993)
        (match st with
          | .inr (.inl y) :: .inr (.inl x) :: st => cond (Nat.ble (ax_sum st) 8) (ax_gd cl (ax_mc h) sl (ax_ms h) (K (pc + 3) lv (ax_l (if y < x then y else x) :: st) cl sl μ)) False
          | _ => False)
        (match st with
          | .inl y :: .inl x :: st => cond (Nat.ble (ax_sum st) 8) (ax_gd cl (ax_mc h) sl (ax_ms h) (K (pc + 3) lv (ax_i (cond (Nat.beq (ax_p E 1) 9991) (if x < y then y else x) (if y < x then y else x)) :: st) cl sl μ)) False
          | _ => False)))
    (match ax_pop (ax_np (tb (ax_p E 1))) [] st with
      | some (as, st) => ax_call C tb h (ax_p E 1) as st cl sl μ (K (pc + 3) lv)
      | _ => False)
  | .invokespecial _ => cond (Nat.beq (ax_p E 1) 9999)
    (match st with
      | .inr (.inr (some a)) :: st => 64 ≤ a ∧ cond (Nat.ble (ax_sum st) 8) (K (pc + 3) lv st cl sl μ) False
      | _ => False)
    (match ax_pop (ax_np (tb (ax_p E 1))) [] st with
      | some (as, .inr (.inr (some a)) :: st) => 64 ≤ a ∧ ax_call C tb h (ax_p E 1) (ax_r (some a) :: as) st cl sl μ (K (pc + 3) lv)
      | _ => False)
  | .ireturn => (match st with
    | [.inl x] => ax_gd cl (ax_mc h) sl (ax_ms h) (match ax_rt h with
      | some .boolean => (x = 0 ∨ x = 1) ∧ Z (some (ax_i x)) μ
      | some .char => (¬ x < 0 ∧ x ≤ 65535) ∧ Z (some (ax_i x)) μ
      | some .byte => x.toInt8.toInt32 = x ∧ Z (some (ax_i x)) μ
      | some .int => Z (some (ax_i x)) μ
      | _ => False)
    | _ => False)
  | .lreturn => (match st with
    | [.inr (.inl x)] => ax_gd cl (ax_mc h) sl (ax_ms h) (Z (some (ax_l x)) μ)
    | _ => False)
  | .return_ => (match st with
    | [] => ax_gd cl (ax_mc h) sl (ax_ms h) (Z none μ)
    | _ => False)
  | _ => False
end Step
