/-- an instruction's numbers are what the tables say -/
def ax_room (h : ax_H) (y : Nat) : Bool := Nat.ble ((ax_tb y).2.1.1 + 1) h.2.1.1 && Nat.ble (8 + (ax_ml (ax_tb y) + 11) + (ax_tb y).2.1.2.1) h.2.1.2.1
def ax_chk (h : ax_H) (pc : Nat) (E : ax_X) : Bool := match E.1 with
  | .iconst n => decide (E.2.1 = 1) && decide (E.2.2.2 = ax_i (Int32.ofInt n))
  | .bipush n => decide (E.2.1 = 2) && decide (E.2.2.2 = ax_i (Int8.ofInt n).toInt32)
  | .sipush n => decide (E.2.1 = 3) && decide (E.2.2.2 = ax_i (Int16.ofInt n).toInt32)
  | .lconst n => decide (E.2.1 = 1) && decide (E.2.2.2 = ax_l (Int64.ofNat (n : Nat)))
  | .ldc i => decide (E.2.1 = 2) && (if ax_p E 1 = 0 then (match ax_ki[ax_p E 0]? with
      | some q => decide (q.1 = ax_oc h) && decide (q.2.1 = i) && decide (E.2.2.2 = ax_i q.2.2)
      | none => false)
    else (match ax_ks[ax_p E 0]? with
      | some q => decide (q.1 = ax_oc h) && decide (q.2.1 = i) && decide (E.2.2.2 = ax_r (some q.2.2.1)) && Nat.ble q.2.2.1 63 && Nat.ble 7 q.2.2.1
      | none => false))
  | .ldc_w i => decide (E.2.1 = 3) && (if ax_p E 1 = 0 then (match ax_ki[ax_p E 0]? with
      | some q => decide (q.1 = ax_oc h) && decide (q.2.1 = i) && decide (E.2.2.2 = ax_i q.2.2)
      | none => false)
    else (match ax_ks[ax_p E 0]? with
      | some q => decide (q.1 = ax_oc h) && decide (q.2.1 = i) && decide (E.2.2.2 = ax_r (some q.2.2.1)) && Nat.ble q.2.2.1 63 && Nat.ble 7 q.2.2.1
      | none => false))
  | .ldc2_w i => decide (E.2.1 = 3) && (match ax_kl[ax_p E 0]? with
      | some q => decide (q.1 = ax_oc h) && decide (q.2.1 = i) && decide (E.2.2.2 = ax_l q.2.2)
      | none => false)
  | .getstatic i => decide (E.2.1 = 3) && (match ax_ls[ax_p E 0]? with
      | some q => decide (q.1 = ax_oc h) && decide (q.2.1 = i) && Nat.ble q.2.2 6 && decide (E.2.2.2 = (ax_sn q.2.2).2.2.2)
      | none => false)
  | .iload i => decide (E.2.1 = 2) && decide (ax_p E 0 = i)
  | .lload i => decide (E.2.1 = 2) && decide (ax_p E 0 = i)
  | .aload i => decide (E.2.1 = 2) && decide (ax_p E 0 = i)
  | .iload_n i => decide (E.2.1 = 1) && decide (ax_p E 0 = i.val)
  | .lload_n i => decide (E.2.1 = 1) && decide (ax_p E 0 = i.val)
  | .aload_n i => decide (E.2.1 = 1) && decide (ax_p E 0 = i.val)
  | .istore i => decide (E.2.1 = 2) && decide (ax_p E 0 = i) && Nat.blt i (ax_ml h)
  | .lstore i => decide (E.2.1 = 2) && decide (ax_p E 0 = i) && Nat.blt (i + 1) (ax_ml h)
  | .astore i => decide (E.2.1 = 2) && decide (ax_p E 0 = i) && Nat.blt i (ax_ml h)
  | .istore_n i => decide (E.2.1 = 1) && decide (ax_p E 0 = i.val) && Nat.blt i.val (ax_ml h)
  | .lstore_n i => decide (E.2.1 = 1) && decide (ax_p E 0 = i.val) && Nat.blt (i.val + 1) (ax_ml h)
  | .astore_n i => decide (E.2.1 = 1) && decide (ax_p E 0 = i.val) && Nat.blt i.val (ax_ml h)
  | .iinc i n => decide (E.2.1 = 3) && decide (ax_p E 0 = i) && Nat.blt i (ax_ml h) && decide (E.2.2.2 = ax_i (Int32.ofInt n))
  | .iadd | .isub | .imul | .idiv | .irem | .ineg | .iand | .ishl | .ishr | .iushr | .ladd | .lmul | .ldiv | .lor | .lshl | .lcmp | .i2l | .l2i | .i2b | .i2c | .dup | .dup2 | .pop => decide (E.2.1 = 1)
  | .iaload | .laload | .iastore | .lastore | .arraylength | .ireturn => decide (E.2.1 = 1)
  | .lreturn => decide (E.2.1 = 1) && decide (ax_rt h = some .long)
  | .return_ => decide (E.2.1 = 1) && decide (ax_rt h = none)
  | .goto off => decide (E.2.1 = 3) && decide ((pc : Int) + off = (ax_p E 0 : Int))
  | .ifCond _ off => decide (E.2.1 = 3) && decide ((pc : Int) + off = (ax_p E 0 : Int))
  | .if_icmp _ off => decide (E.2.1 = 3) && decide ((pc : Int) + off = (ax_p E 0 : Int))
  | .ifnull off => decide (E.2.1 = 3) && decide ((pc : Int) + off = (ax_p E 0 : Int))
  | .ifnonnull off => decide (E.2.1 = 3) && decide ((pc : Int) + off = (ax_p E 0 : Int))
  | .tableswitch d lo hi offs => decide ((pc : Int) + d = (ax_p E 0 : Int)) && decide (lo = (ax_p E 1 : Int)) && decide (hi = (ax_p E 1 : Int) + (E.2.2.1.length - 3 : Int)) && decide (E.2.2.1.length = offs.size + 2) && Nat.ble 1 offs.size && Nat.ble (ax_p E 1 + offs.size) 100000 &&
      (List.range offs.size).all (fun k => decide ((offs[k]?).map (fun o => (pc : Int) + o) = some (ax_p E (2 + k) : Int)))
  | .getfield i => decide (E.2.1 = 3) && (match ax_lf[ax_p E 0]? with
      | some q => decide (q.1 = ax_oc h) && decide (q.2.1 = i) && decide (q.2.2.1 = ax_p E 1) && decide (q.2.2.2.1 = ax_p E 2) &&
          (if ax_p E 1 = 13 then decide (q.2.2.2.2 = 0) && (decide (ax_p E 2 = 0 ∧ ax_p E 3 = 2) || decide (ax_p E 2 = 1 ∧ ax_p E 3 = 0)) else Nat.blt (ax_p E 1) 13 && Nat.blt (ax_p E 2) (ax_nf (ax_p E 1)) && decide (ax_p E 3 = ax_ft (ax_p E 1) (ax_p E 2)))
      | none => false)
  | .putfield i => decide (E.2.1 = 3) && (match ax_lf[ax_p E 0]? with
      | some q => decide (q.1 = ax_oc h) && decide (q.2.1 = i) && decide (q.2.2.1 = ax_p E 1) && decide (q.2.2.2.1 = ax_p E 2) &&
          Nat.blt (ax_p E 1) 13 && Nat.blt (ax_p E 2) (ax_nf (ax_p E 1)) && decide (ax_p E 3 = ax_ft (ax_p E 1) (ax_p E 2)) &&
          (if (ax_Tb (ax_p E 1) (ax_p E 2)).2.2.2 = true then decide (q.2.2.2.2 = 0) && decide ((ax_nm h).name = "<init>") && decide (ax_Cn (ax_p E 1) = (ax_nm h).cls) else true)
      | none => false)
  | .baload => decide (E.2.1 = 1) && (decide (ax_p E 0 = 20) || decide (ax_p E 0 = 23))
  | .bastore => decide (E.2.1 = 1) && (decide (ax_p E 0 = 20) || decide (ax_p E 0 = 23))
  | .aaload => decide (E.2.1 = 1) && Nat.ble 24 (ax_p E 0) && Nat.ble (ax_p E 0) 28
  | .aastore => decide (E.2.1 = 1) && Nat.ble 24 (ax_p E 0) && Nat.ble (ax_p E 0) 27 && Nat.blt (ax_p E 1) 13 && decide (ax_aT (ax_p E 0) = .object (ax_Cn (ax_p E 1)))
  | .new i => decide (E.2.1 = 3) && (match ax_lc[ax_p E 0]? with
      | some q => decide (q.1 = ax_oc h) && decide (q.2.1 = i) && decide (q.2.2 = ax_p E 1) && Nat.blt (ax_p E 1) 13
      | none => false)
  | .newarray t => decide (E.2.1 = 2) && decide (ax_ty t = ax_p E 0) && Nat.ble (ax_p E 0) 23
  | .anewarray i => decide (E.2.1 = 3) && (match ax_lc[ax_p E 0]? with
      | some q => decide (q.1 = ax_oc h) && decide (q.2.1 = i) && Nat.blt q.2.2 13 && Nat.ble 24 (ax_p E 1) && Nat.ble (ax_p E 1) 27 && decide (ax_aT (ax_p E 1) = .object (ax_Cn q.2.2))
      | none => false)
  | .multianewarray _ _ => false
  | .invokevirtual i => decide (E.2.1 = 3) && (match ax_lm[ax_p E 0]? with
      | some q => decide (q.1 = ax_oc h) && decide (q.2.1 = i) && decide (q.2.2.1 = ax_p E 1) && Nat.blt (ax_p E 1) 249 && decide ((ax_mq (ax_p E 1)).1 = 2) && ax_room h (ax_p E 1) &&
          (if ax_p E 2 = 13 then decide ((ax_nm (ax_tb (ax_p E 1))).cls = "java/lang/String") && decide (q.2.2.2 = 0) else Nat.blt (ax_p E 2) 13 && decide (ax_Cn (ax_p E 2) = (ax_nm (ax_tb (ax_p E 1))).cls))
      | none => false)
  | .invokestatic i => decide (E.2.1 = 3) && (match ax_lm[ax_p E 0]? with
      | some q => decide (q.1 = ax_oc h) && decide (q.2.1 = i) && decide (q.2.2.1 = ax_p E 1) &&
          (if 9990 ≤ ax_p E 1 then (decide (ax_p E 1 = 9990) || decide (ax_p E 1 = 9991) || decide (ax_p E 1 = 9992) || decide (ax_p E 1 = 9993)) && decide (q.2.2.2 = 0) && Nat.ble 1 h.2.1.1 && Nat.ble 23 h.2.1.2.1
           else Nat.blt (ax_p E 1) 249 && decide ((ax_mq (ax_p E 1)).1 = 1) && ax_room h (ax_p E 1))
      | none => false)
  | .invokespecial i => decide (E.2.1 = 3) && (match ax_lm[ax_p E 0]? with
      | some q => decide (q.1 = ax_oc h) && decide (q.2.1 = i) && decide (q.2.2.1 = ax_p E 1) &&
          (if ax_p E 1 = 9999 then decide (q.2.2.2 = 0) && Nat.ble 1 h.2.1.1 && Nat.ble 20 h.2.1.2.1
           else Nat.blt (ax_p E 1) 249 && decide ((ax_mq (ax_p E 1)).1 = 3) && ax_room h (ax_p E 1))
      | none => false)
  | _ => true
/-- a method's whole code: each place decodes as written, and its numbers are right -/
def ax_okc (h : ax_H) (cd : Nat → Option ax_X) (n : Nat) : Bool := (List.range n).all (fun pc => match cd pc with
  | some E => (match decode (ax_by h) pc with
    | .ok q => decide (q = (E.1, E.2.1)) && ax_chk h pc E
    | .error _ => false)
  | none => true)
/-- a method's code: its places below n alone -/
def ax_cut (n : Nat) (cd : Nat → Option ax_X) (pc : Nat) : Option ax_X := cond (Nat.blt pc n) (cd pc) none
theorem ax_okc_at {h : ax_H} {cd : Nat → Option ax_X} {n : Nat} (hk : ax_okc h cd n = true) {pc : Nat} {E : ax_X} (he : ax_cut n cd pc = some E) : decode (ax_by h) pc = .ok (E.1, E.2.1) ∧ ax_chk h pc E = true := by
  unfold ax_cut at he
  cases hb : Nat.blt pc n with
  | false => rw [hb] at he; cases he
  | true =>
    rw [hb] at he
    have hlt : pc < n := Nat.le_of_ble_eq_true hb
    have h1 := List.all_eq_true.mp hk pc (List.mem_range.mpr hlt)
    simp only [cond] at he
    rw [he] at h1
    cases hd : decode (ax_by h) pc with
    | error x => simp [hd] at h1
    | ok q =>
      simp only [hd, Bool.and_eq_true, decide_eq_true_eq] at h1
      exact ⟨by rw [h1.1], h1.2⟩
