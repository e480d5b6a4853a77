def R_law : String := "BiscuitLessLaw"
def lw_P (b : Addr) (xs : List Int32) (args : Array Value) (s : State) : Prop := args = #[.ref b] ∧ s.IntsAt b xs ∧ xs.length ≤ 3072 ∧ (Jvm.Cond.and given_1 narrow_1).before args s = true
def lw_Q (_ : Array Value) (s : State) (o : Outcome) (t : State) : Prop := o = .returned (some (.int 1)) ∧ Framed s o t [] 601024 7293033
def lw_Z (below : List Frame) (a : Array Value) (s : State) : State → Prop := fun t => ∃ o, t.status = .running ∧ Ended t below o ∧ lw_Q a s o t
def lw_At (p : Program) (s : State) (m : MethodId) (meth : Method) (c : Code) (b L : Nat) (xs : Nat → Int32) : Prop :=
  p.tables.exec = Jvm.exec ∧ c.code = code ∧ meth.sig.returnType = ret ∧ c.maxLocals = 7 ∧ s.vm.findClass R_law = some m.cls ∧ (∀ w ∈ lw_tbl, w.before #[Value.ref b] s = true) ∧ va_X b L xs s s.heap ∧ b < s.heap.size ∧ meth.locks = false ∧ (Jvm.Cond.and given_1 narrow_1).before #[Value.ref b] s = true ∧ meth.name = "law"
/-- the law's end, where the start's facts KX hold -/
def lw_E (KX : ax_G → State → Prop) (G : ax_G) : Program → Env → State → MethodId → Array Value → List Frame → Method → Code → State → Prop := fun p e s m args below meth c t => KX G s → ax_E G ax_h249 (fun x _ => x = some (ax_i 1)) p e s m args below meth c t
theorem lw_end {l : Launch} {G : ax_G} (KX : ax_G → State → Prop) : Lend l G (lw_E KX G) := fun cl sl μ h1 h2 p e s m args below meth c hx H locs ls hH hl hq T hT X => by
  obtain ⟨t, a, b⟩ := sgRet l G (fun x _ => x = some (ax_i 1)) cl sl μ (ax_gd.mk h1 h2 ⟨Or.inr rfl, rfl⟩) p e s m args below meth c hx H locs ls hH hl hq T hT X
  exact ⟨t, a, fun _ => b⟩
theorem whole_of {p : Program} {e : Env} {s : State} {m : MethodId} {below : List Frame} {meth : Method} {c : Code} (l : Launch) {b L : Nat} {xs : Nat → Int32} (hL : L ≤ 3072) (C0 : lw_At p s m meth c b L xs) (KX : ax_G → State → Prop) (hKX : ∀ G : ax_G, ax_Hb G = s.heap → ax_B G = s.heap.size → KX G s) (hled : ∀ (G : ax_G), GC G → Led l G (lw_E KX G) L xs) : W p l e room_1 s m #[Value.ref b] below meth c s.heap [] 0 0 (lw_Z below #[Value.ref b] s) (entryFrame m ([Value.ref b] : List Value).toArray 7) := by
  obtain ⟨hexec, hcode, hret, hml, hown, hts, hX, hb, hlocks, hgv, hname⟩ := C0
  obtain ⟨G, hKK, h0, hH, hB, hC⟩ := ax_start hL hts hX hb hgv
  have hG := g0_GC h0
  have R := lstart (l := l) (G := G) (EE := lw_E KX G) (μ := g0 L xs) hG (lw_end KX) hL (hled G hG) rfl ⟨rfl, rfl, fun _ => rfl⟩
  have ev : [Value.ref b] = ([ax_r (some 0)] : List ax_V).map (ax_cv G) := by
    show [Value.ref b] = [va_rf (if 0 = 6 then ax_F G else some (if 0 < 64 then ax_C G 0 else _))]
    rw [if_neg (by omega), if_pos (by omega), hC]
    rfl
  have hl := lv_entry ([ax_r (some 0)].map (ax_cv G)) (n := 7) (by rw [ax_len_cv]; decide)
  rw [ax_ent_cv] at hl
  have w := R p e s m #[Value.ref b] below meth c ⟨hexec, hcode, hret, hlocks, hml, hown, hname, fun w hw => hts w (gw_t hw), hKK⟩ s.heap [] _ (g0_Hd h0 hH hB) hl (fun q hq => by cases hq)
  intro T hT X
  rw [ev, lg_entry_eq]
  obtain ⟨t, a1, hz⟩ := w T hT X
  obtain ⟨o, b1, b2, ⟨x, μ, e1, e2, -⟩, Lc, hf, hfr⟩ := hz (hKX G hH hB)
  refine ⟨t, a1, o, b1, b2, ?_, hf.1, hf.2.1, State.sameButNew.drop_fresh (L := []) (J := Lc) hf.2.2 (fun q hq => ?_)⟩
  · rw [e1, e2]
    rfl
  · have := hfr q hq
    rw [← hB]
    exact this
