/-! a throw of new X(text) without traces, where the constructor of X reaches that of Y by an index and bytes of its own, and the others go the library's way -/
/-- what is asked of X itself: the last words of the library's list -/
def ax_tlX (own : String) (ic : Nat) (X : String) : List Cond := (Bundle.ownAtoms own ic X []).drop 33
/-- the words of such a throw -/
def ax_wX (own : String) (ic : Nat) (X : String) (ix : Nat) (rx : ByteArray) (Y : String) (r : List String) : List Cond :=
  Bundle.throwableAtoms ++ Bundle.throwableSAtoms ++ (Bundle.passSAtoms X Y ix rx ++ Bundle.chainSAtoms Y r) ++ ax_tlX own ic X
theorem ax_wX_1 {own : String} {ic : Nat} {X : String} {ix : Nat} {rx : ByteArray} {Y : String} {r : List String} {w : Cond} (h : w ∈ Bundle.throwableAtoms) : w ∈ ax_wX own ic X ix rx Y r :=
  List.mem_append_left _ (List.mem_append_left _ (List.mem_append_left _ h))
theorem ax_wX_2 {own : String} {ic : Nat} {X : String} {ix : Nat} {rx : ByteArray} {Y : String} {r : List String} {w : Cond} (h : w ∈ Bundle.throwableSAtoms) : w ∈ ax_wX own ic X ix rx Y r :=
  List.mem_append_left _ (List.mem_append_left _ (List.mem_append_right _ h))
theorem ax_wX_3 {own : String} {ic : Nat} {X : String} {ix : Nat} {rx : ByteArray} {Y : String} {r : List String} {w : Cond} (h : w ∈ Bundle.passSAtoms X Y ix rx ++ Bundle.chainSAtoms Y r) : w ∈ ax_wX own ic X ix rx Y r :=
  List.mem_append_left _ (List.mem_append_right _ h)
theorem ax_wX_4 {own : String} {ic : Nat} {X : String} {ix : Nat} {rx : ByteArray} {Y : String} {r : List String} {w : Cond} (h : w ∈ ax_tlX own ic X) : w ∈ ax_wX own ic X ix rx Y r :=
  List.mem_append_right _ h
/-- the j-th of the last words -/
theorem ax_tlX_at {own : String} {ic : Nat} {X : String} {args : Array Value} {s : State} (h : ∀ w ∈ ax_tlX own ic X, w.before args s = true) (j : Nat) {w : Cond} (hj : (ax_tlX own ic X)[j]? = some w) : w.holds args s none s [] = true := h w (List.mem_of_getElem? hj)
/-- the constructors on the way up, as one list -/
theorem ax_upX {args : Array Value} {s : State} {pl : Platform} (hpl : pl.magicAccessors = ({} : Platform).magicAccessors) {top : MethodId} (htop : s.methodNamed? (Bundle.initS Bundle.tN) = some top) {X Y : String} {r : List String} {ix : Nat} {rx : ByteArray}
    (hd : decode rx 0 = .ok (.aload_n 0, 1) ∧ decode rx 1 = .ok (.aload_n 1, 1) ∧ decode rx 2 = .ok (.invokespecial ix, 3) ∧ decode rx 5 = .ok (.return_, 1))
    (hn : ∀ n ∈ X :: Y :: r, Bundle.fit n = true) (h : ∀ w ∈ Bundle.passSAtoms X Y ix rx ++ Bundle.chainSAtoms Y r, w.before args s = true) :
    ∃ Ps : List PassC, Ps.length = r.length + 2 ∧ (∀ P, P ∈ Ps → P.LinksS pl s) ∧ PassesOn top (Ps.map (·.toPassT)) ∧ s.methodNamed? (Bundle.initS X) = some (firstOf top (Ps.map (·.toPassT))) := by
  have fX := Bundle.fit_spec (hn X List.mem_cons_self)
  have fY := hn Y (List.mem_cons_of_mem _ List.mem_cons_self)
  obtain ⟨A, lA, mA, sA⟩ := PassC.ofS_atoms (args := args) (s := s) hpl fX.1 (Bundle.fit_spec fY).2 hd.1 hd.2.1 hd.2.2.1 hd.2.2.2 (fun w hw => h w (List.mem_append_left _ hw))
  obtain ⟨B, Bs, nB, lB, lBs, mB, on1, on2⟩ := Bundle.chainS (args := args) hpl htop r Y fY (fun n hx => hn n (List.mem_cons_of_mem _ (List.mem_cons_of_mem _ hx))) (fun w hw => h w (List.mem_append_right _ hw))
  refine ⟨A :: B :: Bs, by rw [List.length_cons, List.length_cons, nB], fun P hP => ?_, ⟨Option.some.inj (sA.symm.trans mB), on1, on2⟩, mA⟩
  rcases List.mem_cons.mp hP with e | hP
  · rw [e]; exact lA
  rcases List.mem_cons.mp hP with e | hP
  · rw [e]; exact lB
  · exact lBs P hP
/-- a field of Throwable in a fresh X: it takes what fits, holds its default, and lies apart from one of another name -/
def ax_foX (s : State) (cX : ClassId) (kX : Class) (f : Field) : Prop :=
  kX.instanceTypes[f.slot]? = some f.type ∧ ∃ d, Jmm.declares? s.vm f.slot (cX + 1) cX = some d ∧ d.2.name = f.name
theorem ax_foX.ne {s : State} {cX : ClassId} {kX : Class} {f g : Field} (hf : ax_foX s cX kX f) (hg : ax_foX s cX kX g) (h : f.name ≠ g.name) : f.slot ≠ g.slot := by
  obtain ⟨-, d, d1, d2⟩ := hf
  obtain ⟨-, b, b1, b2⟩ := hg
  exact Cond.laysApart d1 b1 d2 b2 h
/-- what the constructors ask of the new cell -/
theorem ax_askX {args : Array Value} {s : State} {pl : Platform} (hpl : pl.magicAccessors = ({} : Platform).magicAccessors) {own X : String} {ic : Nat} (h : ∀ w ∈ ax_tlX own ic X, w.before args s = true)
    {T : ThrowableC} {Z : Init0T} (L : T.Links pl s) (Y : Bundle.Ties T Z s) {cX : ClassId} {kX : Class} (hX : s.vm.findClass X = some cX) (hk : s.vm.classes[cX]? = some kX) (hord : kX.kind = .ordinary)
    (a : Addr) (u v : RefV) {msg : Value} (hmsg : msg.isRef = true) (t : ThreadId) :
    (Takes s (freshCell cX kX) T.fCause (.ref a) ∧ Takes s (freshCell cX kX) T.fStack u.v ∧ Takes s (freshCell cX kX) T.fSupp v.v ∧ Takes s (freshCell cX kX) T.fMsg msg) ∧
      SkipFacts T pl s (fun q => q) u ((preparedCellV T.toThrowableT (freshCell cX kX) a u v).withEntry t) := by
  obtain ⟨i, hM⟩ := Y.msg
  have oC : ax_foX s cX kX T.fCause := Cond.laysAt hX hk Y.cause (ax_tlX_at h 5 rfl)
  have oS : ax_foX s cX kX T.fStack := Cond.laysAt hX hk Y.stack (ax_tlX_at h 6 rfl)
  have oP : ax_foX s cX kX T.fSupp := Cond.laysAt hX hk Y.supp (ax_tlX_at h 7 rfl)
  have oM : ax_foX s cX kX T.fMsg := Cond.laysAt hX hk hM (ax_tlX_at h 8 rfl)
  obtain ⟨b1, b2, fB, q1, q2, q3, q4, -, nB, tB, hB⟩ := Cond.ownField (t := .object "java/lang/Object") Y.found L.cls (by decide +kernel) (ax_tlX_at h 11 rfl) (ax_tlX_at h 12 rfl) pl hpl
  have oB : ax_foX s cX kX fB := Cond.laysAt hX hk hB (ax_tlX_at h 13 rfl)
  refine ⟨⟨Takes.of_laid hk hord oC.1 (by rw [Y.causeType]; rfl), Takes.of_laid hk hord oS.1 (by rw [Y.stackType]; exact fits_refV_array _ u), Takes.of_laid hk hord oP.1 (by rw [Y.suppType]; exact fits_refV_object _ v), Takes.of_laid hk hord oM.1 (by rw [Y.msgType]; exact fits_refV_object _ ⟨msg, hmsg⟩)⟩,
    { ci198 := b1, i198 := b2, fBack := fB }, ⟨q1, q2, q3, q4⟩, ?_, fun _ _ => rfl⟩
  have e0 : (freshCell cX kX).slots[fB.slot]? = some .null := by
    have e := fresh_default (c := cX) oB.1
    rw [tB] at e
    exact e
  have n1 := oC.ne oB (by rw [nB, Y.causeName]; decide)
  have n2 := oS.ne oB (by rw [nB, Y.stackName]; decide)
  have n3 := oP.ne oB (by rw [nB, Y.suppName]; decide)
  show ((((freshCell cX kX).slots.setIfInBounds T.fCause.slot _).setIfInBounds T.fStack.slot _).setIfInBounds T.fSupp.slot _)[fB.slot]? = some .null
  rw [Array.getElem?_setIfInBounds_ne n3, Array.getElem?_setIfInBounds_ne n2, Array.getElem?_setIfInBounds_ne n1]
  exact e0
/-- a method of Throwable that X does not change -/
theorem ax_selX {p : Program} {l : Launch} {e : Env} {R : Room} {s : State} {m₀ : MethodId} {args : Array Value} {below : List Frame} {meth : Method} {c : Code} {W : State} {locs : List Loc} {cells slots : Nat}
    (S : Stand p l e R s m₀ args below meth c W locs cells slots) {X : String} {x : MethodName} {m : MethodId} {cX : ClassId} (hw : (Cond.selects X x x).holds args s none s [] = true) (hX : s.vm.findClass X = some cX) (hm : s.methodNamed? x = some m)
    (hx : x.cls ≠ "java/lang/invoke/MethodHandle" ∧ x.cls ≠ "java/lang/invoke/VarHandle") : selectMethod e.platform s.vm cX m = .method m := by
  obtain ⟨c1, m1, m2, q1, q2, q3, q4, -⟩ := Cond.selects_spec hw
  have e1 := Option.some.inj (q1.symm.trans hX)
  have e2 := Option.some.inj (q2.symm.trans (State.methodFound?_of_named hm hx))
  have e3 := Option.some.inj (q3.symm.trans hm)
  rw [e1, e2, e3] at q4
  rw [Launch.admits_selectMethod S.admits]
  exact q4
/-- the cell of Throwable's statics, as the walk has it: older than the walk, out of its places -/
theorem ax_staX {p : Program} {l : Launch} {e : Env} {R : Room} {s : State} {m₀ : MethodId} {args : Array Value} {below : List Frame} {meth : Method} {c : Code} {W : State} {locs : List Loc} {cells slots : Nat}
    (S : Stand p l e R s m₀ args below meth c W locs cells slots) (hl : ∀ x ∈ locs, ∀ cell, s.heap[x.base]? = some cell → cell.vm.isStatics = false) {q : Addr} {cell : Cell} (hq : s.heap[q]? = some cell) (hs : cell.vm.isStatics = true) :
    ∃ cell', W.heap[q]? = some cell' ∧ cell'.vm ≠ .unknown ∧ ∀ j : Nat, cell'.slots[j]? = cell.slots[j]? := by
  obtain ⟨cell', h1, h2, -, h3⟩ := S.same.2.2.2.2.2 q cell hq
  refine ⟨cell', h1, fun hu => ?_, fun j => h3 j fun hm => ?_⟩
  · have hv : cell'.vm = cell.vm := by rw [h2]
    rw [← hv, hu] at hs
    cases hs
  · exact Bool.noConfusion ((hl _ hm cell hq).symm.trans hs)
/-- the constructor of the new X is called, runs up to Object and back, and X is thrown: the walk's end; of the thrown cell what a handler asks -/
theorem ax_ctorX {p : Program} {l : Launch} {e : Env} {R : Room} {s : State} {m₀ : MethodId} {args : Array Value} {below : List Frame} {meth : Method} {c : Code} {W : State} {locs : List Loc} {cells slots : Nat}
    (S : Stand p l e R s m₀ args below meth c W locs cells slots) (hexec : p.tables.exec = Jvm.exec) (htr : e.platform.stackTraces = false) {own X Y : String} {r : List String} {ic ix : Nat} {rx : ByteArray}
    (hd : decode rx 0 = .ok (.aload_n 0, 1) ∧ decode rx 1 = .ok (.aload_n 1, 1) ∧ decode rx 2 = .ok (.invokespecial ix, 3) ∧ decode rx 5 = .ok (.return_, 1))
    (hown : s.vm.findClass own = some m₀.cls) (hn : ∀ n ∈ X :: Y :: r, Bundle.fit n = true) (h : ∀ w ∈ ax_wX own ic X ix rx Y r, w.before args s = true)
    (hl : ∀ x ∈ locs, ∀ cell, s.heap[x.base]? = some cell → cell.vm.isStatics = false)
    {a : Addr} {cX : ClassId} {kX : Class} (hX : s.vm.findClass X = some cX) (hk : s.vm.classes[cX]? = some kX) (hcell : W.heap[a]? = some (freshCell cX kX)) (hnew : s.heap.size ≤ a) {msg : Value} (hmsg : msg.isRef = true)
    {g : JFrame} (hg : g.method = m₀) (hsize : g.locals.size = c.maxLocals) (hlocked : g.locked = none) (hentered : g.entered = []) {rest : List Value} (hst : g.stack = msg :: .ref a :: .ref a :: rest)
    (d0 : decode c.code g.pc = .ok (.invokespecial ic, 3)) (d3 : decode c.code (g.pc + 3) = .ok (.athrow, 1)) (hout : ∀ x ∈ c.exceptionTable.toList, covers x (g.pc + 3) = false)
    (hRf : r.length + 4 < R.frames) (hRl : 2 * g.monitorRoom + ((Value.ref a :: rest).map fun v => v.category).sum + (13 * (r.length + 2) + 42) ≤ R.locals) (hlocks : meth.locks = false) :
    ∃ (U : State) (ce : Cell), Steps p.tables e below (W.setTop g) U ∧ U.status = .running ∧ Ended U below (.threw a) ∧ s.WarmedH U.vm ∧ s.sameButNew ({ U with vm := s.vm } : State) locs cells slots ∧
      U.heap[a]? = some ce ∧ ce.cls = cX ∧ ce.vm = .none := by
  have hpl : e.platform.magicAccessors = ({} : Platform).magicAccessors := by rw [S.admits.platform]
  have hT : ∀ w ∈ ax_tlX own ic X, w.before args s = true := fun w hw => h w (ax_wX_4 hw)
  -- Throwable and the way up
  obtain ⟨T, Z0, L, -, Ti⟩ := ThrowableC.of_atoms (args := args) (pl := e.platform) (by rw [S.admits.platform]) (by rw [S.admits.platform]) hpl (fun w hw => h w (ax_wX_1 hw))
  obtain ⟨Z, M, LZ, LM, top⟩ := Init0T.ofS_atoms (args := args) hpl L Ti (fun w hw => h w (ax_wX_2 hw))
  obtain ⟨Ps, nP, lP, on, mX⟩ := ax_upX (args := args) hpl top hd hn (fun w hw => h w (ax_wX_3 hw))
  obtain ⟨c1, k1, f1, f2, hord, -, -, -⟩ := Cond.instantiable_spec (ax_tlX_at hT 1 rfl)
  have e1 := Option.some.inj (f1.symm.trans hX)
  subst e1
  have e2 := Option.some.inj (f2.symm.trans hk)
  subst e2
  -- the statics
  obtain ⟨st, s1, s2⟩ := Ti.statics
  obtain ⟨u, hu⟩ := Cond.staticRefV Ti.unassigned L.unassignedStatic L.statics s1 s2 (ax_tlX_at hT 9 rfl)
  obtain ⟨v, hv⟩ := Cond.staticRefV Ti.sentinel L.sentinelStatic L.statics s1 s2 (ax_tlX_at hT 10 rfl)
  obtain ⟨st', t1, t2, t3⟩ := ax_staX S hl s1 s2
  have hne : T.aS ≠ a := fun e => absurd (Array.getElem?_eq_some_iff.mp s1).1 (by rw [e]; exact Nat.not_lt.mpr hnew)
  obtain ⟨⟨k2, k3, k4, k5⟩, sk⟩ := ax_askX hpl hT L Ti hX hk hord a u v hmsg W.cur
  -- the call
  obtain ⟨tm, methC, cdC, kC, vm1, nC, -, -, -, -, -, -, -, w1, st1⟩ := Steps.initColdS (tb := p.tables) (e := e) (below := below) (s := s) (U := W) S.here hexec S.warmed hpl hown (t := Bundle.initS X) rfl rfl (Bundle.fit_spec (hn X List.mem_cons_self)).2
    (ax_tlX_at hT 0 rfl) (h _ (ax_wX_3 (List.mem_append_left _ (List.mem_of_getElem? (i := 0) rfl)))) (bytes := rx) (maxL := 2) (h _ (ax_wX_3 (List.mem_append_left _ (List.mem_of_getElem? (i := 1) rfl)))) hg hst d0
  have e3 := Option.some.inj (nC.symm.trans mX)
  obtain ⟨vm2, S2, st2⟩ := (S.noted w1).ctorMessageOffV hexec (g := { g with stack := .ref a :: rest }) hg hsize T L Z LZ M LM Ps lP on (u0 := u) (sen := v) hmsg hcell (fun _ hu => nomatch hu) (fun hu => nomatch hu) rfl rfl
    (ax_selX S (ax_tlX_at hT 3 rfl) hX Ti.fill0 (by decide)) (ax_selX S (ax_tlX_at hT 4 rfl) hX Ti.fill (by decide)) t1 hne t2 ((t3 _).trans hu) ((t3 _).trans hv) k2 k3 k4 k5 Ti.objLocals sk htr [] d0 (by omega) (by rw [nP]; exact hRl)
  -- the throw
  obtain ⟨y1, y2, y3, y4, y5⟩ := S2.athrowLeaves hexec (g := { g with stack := .ref a :: rest, pc := g.pc + 3 }) hg hlocked hentered hout rfl d3 hlocks
  refine ⟨_, _, st1 _ fun acts => ?_, y2, y3, y4, y5.weaken (fun x hx hlt => ?_) (Nat.le_refl _) (Nat.le_refl _), heapAt_setCell_self _ (show a < W.heap.size from (Array.getElem?_eq_some_iff.mp hcell).1), rfl, rfl⟩
  · rw [doInvoke_state, e3]
    exact st2 _ y1
  · rcases List.mem_append.mp hx with hx | hx
    · exact hx
    · have eb : x.base = a := by
        simp only [List.mem_cons, List.not_mem_nil, or_false] at hx
        rcases hx with e | e | e | e | e <;> rw [e]
      rw [eb] at hlt
      exact absurd hlt (Nat.not_lt.mpr hnew)
/-- those of its words that the tables decide -/
def ax_atX (own : String) (ic : Nat) (X : String) (ix : Nat) (rx : ByteArray) (Y : String) (r : List String) : List Cond := (ax_wX own ic X ix rx Y r).filter vx_no
/-! the kit's law vx_throwSW (kit/laws/EXCEPTIONS), turned to ax_ctorX -/
section OY
variable {p : Program} {l : Launch} {e : Env} {R : Room} {s : State} {m : MethodId} {args : Array Value} {below : List Frame} {meth : Method} {c : Code} {H : Heap} {locs : List Loc} {cells slots : Nat} {Q : State → Prop}
variable {mc ms : Nat} {free : Addr → Prop} {A0 A1 : Nat → Prop} {H0 : Heap} {a : Array Value} {ls : Array Slot} {st0 rest : List Value}
variable {Qc : Array Value → State → Outcome → State → Prop} {XC : String → State → State → Prop}
set_option maxHeartbeats 1000000 in
theorem ax_throwX {cc : ByteArray} {pc : Nat} (hexec : p.tables.exec = Jvm.exec) (hb : c.code = cc) (hl : l.stackTraces = false) {own cls text Y : String} {r : List String} {ik is ic mc ms sa : Nat} {A : Nat → Prop} {ix : Nat} {rx : ByteArray} (hd : decode rx 0 = .ok (.aload_n 0, 1) ∧ decode rx 1 = .ok (.aload_n 1, 1) ∧ decode rx 2 = .ok (.invokespecial ix, 3) ∧ decode rx 5 = .ok (.return_, 1))
    (hown : s.vm.findClass own = some m.cls) (hn : ∀ n ∈ cls :: Y :: r, Bundle.fit n = true)
    (hk : (Cond.classLink own ik cls).before args s = true) (hini : (Cond.initialized cls).before args s = true) (hstr : vk_R own is text sa s) (hat : ∀ w ∈ ax_atX own ic cls ix rx Y r, w.before args s = true)
    (hgood : ∀ w ∈ Cond.classLink own ik cls :: Cond.initialized cls :: ax_atX own ic cls ix rx Y r, vx_ot w = true)
    (hU : vx_Zq Bundle.tN "UNASSIGNED_STACK" Bundle.steD A s s.heap) (hN : vx_Zq Bundle.tN "SUPPRESSED_SENTINEL" Bundle.listD A s s.heap) (hS : va_S A s.heap H locs) (hsize : ls.size = c.maxLocals)
    (d0 : decode cc pc = .ok (.new ik, 3)) (d3 : decode cc (pc + 3) = .ok (.dup, 1)) (d4 : decode cc (pc + 4) = .ok (.ldc_w is, 3)) (d7 : decode cc (pc + 7) = .ok (.invokespecial ic, 3)) (d10 : decode cc (pc + 10) = .ok (.athrow, 1))
    (hout : ∀ x ∈ c.exceptionTable.toList, covers x (pc + 10) = false)
    (hRframes : r.length + 4 < R.frames) (hRlocals : (rest.map fun v => v.category).sum + (13 * (r.length + 2) + 43) ≤ R.locals) (hRcells : cells + 1 ≤ R.cells) (hRslots : slots + 6 ≤ R.slots) (hlocks : meth.locks = false)
    (hx : ∀ t : State, s.vm.Alike t.vm → H.size ≤ t.heap.size → (∀ q : Nat, q < H.size → t.heap[q]? = H[q]?) → XC cls s t)
    (hf : ∀ z ∈ locs, free z.base) (hc : cells + 1 ≤ mc) (hs : slots + 6 ≤ ms) :
    W p l e R s m args below meth c H locs cells slots (vx_MQ below Qc XC args s mc ms free) (F0 m pc ls rest) := by
  intro T hT X
  have htr : e.platform.stackTraces = false := (show e.platform.stackTraces = l.stackTraces by rw [X.admits.platform]).trans hl
  have X0 := vx_rebase X (R' := { frames := R.frames, locals := R.locals, cells := 1, slots := 6 }) (Nat.le_refl _) (Nat.le_refl _) hRcells hRslots
  obtain ⟨s', hA⟩ : ∃ z, z = (T.setVm s.vm).setFrames (.invoking m args :: below) := ⟨_, rfl⟩
  rw [← hA] at X0
  have hvm : s'.vm = s.vm := by rw [hA]; rfl
  have hhp : s'.heap = H := by rw [hA]; exact hT
  have hW0 : s.WarmedH s'.vm := by rw [hvm]; exact State.WarmedH.refl s
  have hat' : ∀ w ∈ ax_atX own ic cls ix rx Y r, w.before args s' = true := fun w hw => vx_ot_at hW0 hvm.symm (hgood w (List.mem_cons_of_mem _ (List.mem_cons_of_mem _ hw))) (hat w hw)
  have hk' : (Cond.classLink own ik cls).before args s' = true := vx_ot_at hW0 hvm.symm (hgood _ List.mem_cons_self) hk
  have hini' : (Cond.initialized cls).before args s' = true := vx_ot_at hW0 hvm.symm (hgood _ (List.mem_cons_of_mem _ List.mem_cons_self)) hini
  have hU' : vx_Zq Bundle.tN "UNASSIGNED_STACK" Bundle.steD A s' s'.heap := by rw [hhp]; exact vx_Zq.moved hW0.alike (hU.kept hS.2.1)
  have hN' : vx_Zq Bundle.tN "SUPPRESSED_SENTINEL" Bundle.listD A s' s'.heap := by rw [hhp]; exact vx_Zq.moved hW0.alike (hN.kept hS.2.1)
  have h : ∀ w ∈ ax_wX own ic cls ix rx Y r, w.before args s' = true := vx_own hat' (vx_isRefq hU'.1) (vx_isRefq hN'.1) hU'.2.word hN'.2.word
  have hown' : s'.vm.findClass own = some m.cls := by rw [hvm]; exact hown
  have hins : (Cond.instantiable cls 6).before args s' = true := h _ (ax_wX_4 (List.mem_of_getElem? (i := 1) rfl))
  obtain ⟨vm₁, cX, kX, hfX, hkX, -, -, X₁, st1⟩ := X0.newCold hexec (own := own) (C := cls) (index := ik) (n := 6) hown' hk' hins hini'
    (g := F0 m pc ls rest) rfl (by rw [hb]; exact d0) (Nat.le_refl _) (Nat.le_refl _)
  generalize hT1 : (T.setVm vm₁).pushCell { cls := cX, slots := kX.instanceTypes.map defaultValue, vm := .none } = T1 at X₁ st1
  have hcat : (Value.ref T.heap.size).category = 1 := rfl
  have hcellA : T1.heap[T.heap.size]? = some (freshCell cX kX) := by rw [← hT1]; exact State.heap_pushCell_size _ _
  have d3' : decode c.code (pc + 3) = .ok (.dup, 1) := by rw [hb]; exact d3
  have d4' : decode c.code (pc + 4) = .ok (.ldc_w is, 3) := by rw [hb]; exact d4
  have hstr' : vk_R own is text sa s' := vk_R.warm hW0 hstr
  obtain ⟨U, ce, hsteps, hrun, hend, hW, hsame, hce, hO1, hO2⟩ := ax_ctorX X₁ hexec htr (own := own) (X := cls) (ic := ic) hd hown' hn h (fun x hx => nomatch hx) hfX hkX hcellA (by rw [hhp, hT]; exact Nat.le_refl _) (msg := .ref sa) rfl
    (g := { method := m, pc := pc + 7, locals := ls, stack := .ref sa :: .ref T.heap.size :: .ref T.heap.size :: rest, locked := none }) rfl hsize rfl rfl (rest := rest) rfl
    (by rw [hb]; exact d7) (by rw [hb]; exact d10) hout hRframes (by simp only [List.map_cons, List.sum_cons, hcat]; omega) hlocks
  obtain ⟨f1, f2⟩ := vx_frame hsame
  rw [hhp] at f1 f2
  have hWs : s.WarmedH U.vm := State.WarmedH.trans hW0 hW
  have hcl : s.vm.findClass cls = some ce.cls := by
    have h9 := hfX
    rw [hvm] at h9
    rw [hO1]
    exact h9
  have hall : s.sameButNew ({ U with vm := s.vm } : State) locs mc ms := by
    subst hA
    obtain ⟨e1, e2⟩ := hsame
    rw [State.setFrames_setFrames] at e1
    have h2 : (T.setVm s.vm).sameButNew ({ U with vm := s.vm } : State) [] (0 + 1) (0 + 6) := ⟨e1, e2⟩
    have h3 := X.same.trans h2
    rw [List.append_nil] at h3
    exact h3.mono hc hs
  refine ⟨U, ?_, .threw T.heap.size, hrun, hend, Or.inr ⟨T.heap.size, rfl, cls, ce, locs, hx U hWs.alike f1 (fun q hq => f2 q hq (fun z hz => nomatch hz)), hce, hO2, hcl, hWs, hall, hf⟩⟩
  refine st1 _ ?_
  show Steps p.tables e below (T1.setTop { method := m, pc := pc + 3, locals := ls, stack := .ref T.heap.size :: rest, locked := none }) _
  jvm_step X₁.here [X₁.here.top, hexec, d3', Value.category]
  exact X₁.ldcStringW hexec (own := own) (text := text) (index := is) (a := sa) hown' hstr'.1 hstr'.2
    (g := { method := m, pc := pc + 4, locals := ls, stack := .ref T.heap.size :: .ref T.heap.size :: rest, locked := none }) rfl d4' _ hsteps
end OY
