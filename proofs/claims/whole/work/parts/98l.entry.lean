def R_law : String := "BiscuitLessLaw"
def lw_P (b : Addr) (xs : List Int32) (args : Array Value) (s : State) : Prop := args = #[.ref b] ∧ s.IntsAt b xs ∧ xs.length ≤ 3072 ∧ (Jvm.Cond.and given_1 narrow_1).before args s = true
def lw_Q (_ : Array Value) (s : State) (o : Outcome) (t : State) : Prop := o = .returned (some (.int 1)) ∧ Framed s o t [] 601024 7293033
def lw_Z (below : List Frame) (a : Array Value) (s : State) : State → Prop := fun t => ∃ o, t.status = .running ∧ Ended t below o ∧ lw_Q a s o t
def lw_At (p : Program) (s : State) (m : MethodId) (meth : Method) (c : Code) (b L : Nat) (xs : Nat → Int32) : Prop :=
  p.tables.exec = Jvm.exec ∧ c.code = code ∧ meth.sig.returnType = ret ∧ c.maxLocals = 7 ∧ s.vm.findClass R_law = some m.cls ∧ (∀ w ∈ lw_tbl, w.before #[Value.ref b] s = true) ∧ va_X b L xs s s.heap ∧ b < s.heap.size ∧ meth.locks = false ∧ (Jvm.Cond.and given_1 narrow_1).before #[Value.ref b] s = true ∧ meth.name = "law"
theorem whole_of {p : Program} {e : Env} {s : State} {m : MethodId} {below : List Frame} {meth : Method} {c : Code} (l : Launch) {b L : Nat} {xs : Nat → Int32} (hL : L ≤ 3072) (C0 : lw_At p s m meth c b L xs) (hled : ∀ (G : ax_G), ax_KK G s → GC G → Led l G (fun x _ => x = some (ax_i 1)) L xs) : W p l e room_1 s m #[Value.ref b] below meth c s.heap [] 0 0 (lw_Z below #[Value.ref b] s) (entryFrame m ([Value.ref b] : List Value).toArray 7) := by
  obtain ⟨hexec, hcode, hret, hml, hown, hts, hX, hb, hlocks, hgv, hname⟩ := C0
  obtain ⟨G, hKK, h0, hH, hB, hC⟩ := ax_start hL hts hX hb hgv
  have hG := g0_GC h0
  have R := lstart (l := l) (G := G) (Q := fun x _ => x = some (ax_i 1)) (μ := g0 L xs) hG (fun _ => rfl) hL (hled G hKK hG) rfl ⟨rfl, rfl, fun _ => rfl⟩
  have ev : [Value.ref b] = ([ax_r (some 0)] : List ax_V).map (ax_cv G) := by
    show [Value.ref b] = [va_rf (if 0 = 6 then ax_F G else some (if 0 < 64 then ax_C G 0 else _))]
    rw [if_neg (by omega), if_pos (by omega), hC]
    rfl
  have hl := lv_entry ([ax_r (some 0)].map (ax_cv G)) (n := 7) (by rw [ax_len_cv]; decide)
  rw [ax_ent_cv] at hl
  have w := R p e s m #[Value.ref b] below meth c ⟨hexec, hcode, hret, hlocks, hml, hown, hname, fun w hw => hts w (gw_t hw), hKK⟩ s.heap [] _ (g0_Hd h0 hH hB) hl (fun q hq => by cases hq)
  intro T hT X
  rw [ev, lg_entry_eq]
  obtain ⟨t, a1, o, b1, b2, ⟨x, μ, e1, e2, -⟩, Lc, hf, hfr⟩ := w T hT X
  refine ⟨t, a1, o, b1, b2, ?_, hf.1, hf.2.1, State.sameButNew.drop_fresh (L := []) (J := Lc) hf.2.2 (fun q hq => ?_)⟩
  · rw [e1, e2]
    rfl
  · have := hfr q hq
    rw [← hB]
    exact this
