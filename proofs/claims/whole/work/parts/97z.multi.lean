/-- a grid of ints under way: i of its N rows made and written, T the state before it -/
def ax_Gr (T U : State) (cA cI : ClassId) (N K i : Nat) : Prop :=
  U.heap.size = T.heap.size + 1 + i ∧ (∀ q : Nat, q < T.heap.size → U.heap[q]? = T.heap[q]?) ∧
  U.heap[T.heap.size]? = some (arrV cA N (fun j => va_rf (if j < i then some (T.heap.size + 1 + j) else none))) ∧
  (∀ j : Nat, j < i → U.heap[T.heap.size + 1 + j]? = some (arrV cI K (fun _ => .int 0))) ∧ U.vm = T.vm
theorem ax_Gr.nil (T : State) (cA cI : ClassId) (N K : Nat) : ax_Gr T (T.pushCell { cls := cA, slots := Array.replicate N .null, vm := .none }) cA cI N K 0 := by
  refine ⟨?_, fun q hq => ?_, ?_, fun j hj => absurd hj (Nat.not_lt_zero j), rfl⟩
  · show (T.heap.push _).size = _
    rw [Array.size_push]
  · show (T.heap.push _)[q]? = _
    rw [Array.getElem?_push_lt hq, Array.getElem?_eq_getElem hq]
  · rw [State.heap_pushCell_size, arrV_new]
    rfl
/-- a row more -/
def ax_gnx (U : State) (a : Addr) (cell : Cell) (cI : ClassId) (K i : Nat) : State :=
  (U.pushCell { cls := cI, slots := Array.replicate K (.int 0), vm := .none }).setCell a (cell.setSlot i (.ref U.heap.size))
theorem ax_Gr.next {T U : State} {cA cI : ClassId} {N K i : Nat} (h : ax_Gr T U cA cI N K i) {cell : Cell} (hc : U.heap[T.heap.size]? = some cell) : ax_Gr T (ax_gnx U T.heap.size cell cI K i) cA cI N K (i + 1) := by
  obtain ⟨h1, h2, h3, h4, h5⟩ := h
  have ec : cell = _ := Option.some.inj (hc.symm.trans h3)
  have hg : ∀ q : Nat, (ax_gnx U T.heap.size cell cI K i).heap[q]? = if T.heap.size = q then some (cell.setSlot i (.ref U.heap.size)) else if q = U.heap.size then some (arrV cI K (fun _ => .int 0)) else U.heap[q]? := by
    intro q
    show ((U.heap.push _).setIfInBounds T.heap.size _)[q]? = _
    rw [Array.getElem?_setIfInBounds, Array.getElem?_push, Array.size_push, arrV_new]
    by_cases e : T.heap.size = q
    · rw [if_pos e, if_pos e, if_pos (by omega)]
    · rw [if_neg e, if_neg e]
  refine ⟨?_, fun q hq => ?_, ?_, fun j hj => ?_, h5⟩
  · show ((U.heap.push _).setIfInBounds T.heap.size _).size = _
    rw [Array.size_setIfInBounds, Array.size_push]
    omega
  · rw [hg, if_neg (by omega), if_neg (by omega)]
    exact h2 q hq
  · rw [hg, if_pos rfl, ec, arrV_store, h1]
    congr 2
    funext j
    show (if j = i then _ else _) = _
    by_cases e : j = i
    · rw [if_pos e, e, if_pos (Nat.lt_succ_self i)]
      rfl
    · rw [if_neg e]
      show va_rf (if j < i then some (T.heap.size + 1 + j) else none) = _
      by_cases e2 : j < i
      · rw [if_pos e2, if_pos (by omega)]
      · rw [if_neg e2, if_neg (by omega)]
  · rw [hg, if_neg (by omega)]
    by_cases e : j = i
    · rw [if_pos (by omega)]
    · rw [if_neg (by omega)]
      exact h4 j (by omega)
/-- a write into a cell that is newer than the walk leaves its places as they were -/
theorem ax_stn {p : Program} {l : Launch} {e : Env} {R : Room} {s : State} {m : MethodId} {args : Array Value} {below : List Frame} {meth : Method} {c : Code} {T : State} {locs : List Loc} {cells slots : Nat}
    (X : Stand p l e R s m args below meth c T locs cells slots) {a : Addr} {cell : Cell} (hc : T.heap[a]? = some cell) (ha : s.heap.size ≤ a) (i : Nat) (v : Value) : Stand p l e R s m args below meth c (T.setCell a (cell.setSlot i v)) locs cells slots := by
  have Y := X.stored hc i v
  refine ⟨Y.admits, Y.cas, Y.clock, Y.frames, Y.room, Y.hears, Y.method, Y.code, Y.here, Y.tail, Y.warmed, Y.limits, Y.bytes, Y.same.weaken (fun x hx hl => ?_) (Nat.le_refl _) (Nat.le_refl _)⟩
  rcases List.mem_append.mp hx with h | h
  · exact h
  · rw [List.mem_singleton.mp h] at hl
    exact absurd hl (Nat.not_lt.mpr ha)
/-- what the word on int[][] says -/
theorem ax_aov {args : Array Value} {s : State} (h : (Cond.arrayOver (.array .int)).before args s = true) :
    ∃ (cA comp : ClassId) (k : Class), s.vm.findClass (FieldType.array .int).toString = some comp ∧ s.vm.findClass ("[" ++ (FieldType.array .int).toString) = some cA ∧ s.vm.classes[cA]? = some k ∧ k.kind = .array comp (.array .int) := by
  have h' : (Cond.arrayOver (.array .int)).holds args s none s [] = true := h
  simp only [Cond.holds, Cond.value, beq_iff_eq, Option.bind_eq_some_iff, Option.map_eq_some_iff] at h'
  obtain ⟨comp, f1, cA, f2, k, f3, f4⟩ := h'
  obtain ⟨q1, q2, -⟩ := Array.findIdx?_eq_some_iff_getElem.mp f2
  have e3 := (Array.getElem?_eq_some_iff.mp f3).2
  rw [e3] at q2
  cases hk : k.kind with
  | array co ty =>
    rw [hk] at f4 q2
    simp only [Bool.and_eq_true, decide_eq_true_eq, beq_iff_eq] at f4 q2
    exact ⟨cA, comp, k, f1, f4.2, f3, by rw [hk, q2, f4.1]⟩
  | _ => rw [hk] at f4; cases f4
/-- the state with i rows of a grid made -/
def ax_gst (T : State) (cA cI : ClassId) (N K : Nat) : Nat → State
  | 0 => T.pushCell { cls := cA, slots := Array.replicate N .null, vm := .none }
  | i + 1 => ax_gnx (ax_gst T cA cI N K i) T.heap.size (arrV cA N (fun j => va_rf (if j < i then some (T.heap.size + 1 + j) else none))) cI K i
theorem ax_gst_Gr (T : State) (cA cI : ClassId) (N K : Nat) : ∀ i : Nat, ax_Gr T (ax_gst T cA cI N K i) cA cI N K i
  | 0 => ax_Gr.nil T cA cI N K
  | i + 1 => (ax_gst_Gr T cA cI N K i).next (ax_gst_Gr T cA cI N K i).2.2.1
theorem ax_Gr.pushed {T U : State} {cA cI : ClassId} {N K i : Nat} (h : ax_Gr T U cA cI N K i) (x : Cell) : (U.pushCell x).heap[T.heap.size]? = some (arrV cA N (fun j => va_rf (if j < i then some (T.heap.size + 1 + j) else none))) := by
  show (U.heap.push x)[T.heap.size]? = _
  rw [Array.getElem?_push, if_neg (by have := h.1; omega)]
  exact h.2.2.1
/-- the heap has not shrunk -/
theorem ax_hge {p : Program} {l : Launch} {e : Env} {R : Room} {s : State} {m : MethodId} {args : Array Value} {below : List Frame} {meth : Method} {c : Code} {T : State} {locs : List Loc} {cells slots : Nat}
    (X : Stand p l e R s m args below meth c T locs cells slots) : s.heap.size ≤ T.heap.size := by
  rcases Nat.lt_or_ge T.heap.size s.heap.size with h | h
  · obtain ⟨ce, h1, -⟩ := X.same.2.2.2.2.2 T.heap.size s.heap[T.heap.size] (Array.getElem?_eq_getElem h)
    exact absurd (Array.getElem?_eq_some_iff.mp h1).1 (Nat.lt_irrefl _)
  · exact h
/-- the walk stands there -/
theorem ax_gst_X {p : Program} {l : Launch} {e : Env} {R : Room} {s : State} {m : MethodId} {args : Array Value} {below : List Frame} {meth : Method} {c : Code} {T : State} {locs : List Loc} {cells slots : Nat}
    (X : Stand p l e R s m args below meth c T locs cells slots) (cA cI : ClassId) (N K : Nat) : ∀ i : Nat, Stand p l e R s m args below meth c (ax_gst T cA cI N K i) locs (cells + 1 + i) (slots + N + i * K)
  | 0 => by
    have Y := X.pushed { cls := cA, slots := Array.replicate N .null, vm := .none }
    rw [Array.size_replicate] at Y
    rw [Nat.zero_mul]
    exact Y
  | i + 1 => by
    have Z := (ax_gst_X X cA cI N K i).pushed { cls := cI, slots := Array.replicate K (.int 0), vm := .none }
    rw [Array.size_replicate] at Z
    rw [Nat.succ_mul, ← Nat.add_assoc, ← Nat.add_assoc]
    exact ax_stn Z ((ax_gst_Gr T cA cI N K i).pushed _) (ax_hge X) i (.ref (ax_gst T cA cI N K i).heap.size)
/-- a cold link of the grid's kind -/
theorem ax_gcold {Q : Unit → Pre} {E : CtlPost} {e : Env} {d : Bool} {acts : List Action} {s : State} {f : JFrame} {index dims cl : Nat} {vm' : Vm} (hs : s.topJava?.isSome) (hg : (Jvm.resolveClass f.method.cls index).Gives e.toSetting s.vm (.ok cl) vm') (hr : vm'.classReady f.method.cls index cl)
    (hsz : vm'.classes.size ≤ s.vm.classes.size) : wp (multianewarray.sem index dims) Q E e d acts (s.setTop f) ↔ wp (multianewarray.sem index dims) Q E e d acts ((s.setVm vm').setTop f) := by
  unfold multianewarray.sem
  rw [wp_bind', wp_bind']
  exact W.resolveClassAt_transfer (s := s.setTop f) (State.method?_setTop f hs) hg hr hsz
/-- how a grid is made, its kind at hand: the direction that a walk needs -/
theorem ax_gwp {p : Program} {l : Launch} {e : Env} {R : Room} {s : State} {m : MethodId} {args : Array Value} {below : List Frame} {meth : Method} {c : Code} {T : State} {locs : List Loc} {cells slots : Nat}
    (X : Stand p l e R s m args below meth c T locs cells slots) {Q : Unit → Pre} {E : CtlPost} {d : Bool} {acts : List Action} {g : JFrame} {index : Nat} {cA cI ci : ClassId} {kA kI : Class} {n k : Int32} {rest : List Value}
    (hr : T.vm.classReady g.method.cls index cA) (hkA : T.vm.classes[cA]? = some kA) (hA : kA.kind = .array cI (.array .int)) (hkI : T.vm.classes[cI]? = some kI) (hI : kI.kind = .array ci .int)
    (hst : g.stack = .int k :: .int n :: rest) (hn : ¬ n < 0) (hk : ¬ k < 0) (hN : n.toNatClampNeg ≤ 1000) (hK : k.toNatClampNeg ≤ 1000)
    (hc : cells + (1 + n.toNatClampNeg) ≤ R.cells) (hs : slots + (n.toNatClampNeg + n.toNatClampNeg * k.toNatClampNeg) ≤ R.slots)
    (kk : ∀ (d' : Bool) (acts' : List Action), Q () d' acts' ((ax_gst T cA cI n.toNatClampNeg k.toNatClampNeg n.toNatClampNeg).setTop { g with stack := .ref T.heap.size :: rest })) :
    wp (multianewarray.sem index 2) Q E e d acts (T.setTop g) := by
  have ht := X.here.top
  have hlim : ∀ x : Nat, x ≤ 1000 → ¬ x > e.platform.arrayLengthLimit := fun x hx => by rw [Launch.admits_arrayLengthLimit X.admits]; omega
  have hhp : ∀ x : Nat, x ≤ 1000 → ¬ x * 4 > e.platform.maxHeapBytes := fun x hx => by rw [Launch.admits_maxHeapBytes X.admits]; omega
  unfold multianewarray.sem
  rw [wp_bind', W.resolveClassAt_ready (State.method?_setTop g ht) hr, wp_bind', show (2 : Nat) = [Value.int n, Value.int k].length from rfl, popN_top ht (show g.stack = [Value.int n, Value.int k].reverse ++ rest from hst)]
  simp only [List.mapM_cons, List.mapM_nil, wp_bind', wp_pure', pure_bind]
  obtain ⟨r1, r2⟩ := X.roomAbove hc hs
  have hf : List.find? (fun x : Int32 => decide (x < 0)) [k] = none := by rw [List.find?_cons_of_neg (by simpa using hk), List.find?_nil]
  rw [multianewarray.make, if_neg hn]
  simp only [wp_bind', W.theClass, State.vm_setTop, hkA, Option.some.injEq, exists_eq_left', hA, hf, ite_self]
  have hmul : ∀ i : Nat, i < n.toNatClampNeg → i * k.toNatClampNeg + k.toNatClampNeg ≤ n.toNatClampNeg * k.toNatClampNeg := fun i hi => by
    rw [← Nat.succ_mul]
    exact Nat.mul_le_mul_right _ hi
  refine W.newArray_of hkA hA (hlim _ hN) (hhp _ hN) (show T.heap.size < _ by omega) (show T.slotsUsed + _ ≤ _ by omega) rfl (fun acts1 => ?_)
  rw [wp_bind', Std.Legacy.Range.forIn_eq_forIn_range']
  refine wp_forIn_inv (fun xs st => ∃ i : Nat, st = (ax_gst T cA cI n.toNatClampNeg k.toNatClampNeg i).setTop { g with stack := rest } ∧ xs = List.range' i (n.toNatClampNeg - i) ∧ i ≤ n.toNatClampNeg) _ _ ?_ ?_ ?_
  · refine ⟨0, rfl, ?_, Nat.zero_le _⟩
    show List.range' 0 ((n.toNatClampNeg - 0 + 1 - 1) / 1) 1 = _
    rw [Nat.div_one, Nat.add_sub_cancel]
  · rintro x xs st d' acts' Q' ⟨i, rfl, hx, hi⟩ hq
    obtain ⟨hlt, rfl, hxs⟩ : i < n.toNatClampNeg ∧ x = i ∧ xs = List.range' (i + 1) (n.toNatClampNeg - (i + 1)) := by
      rcases Nat.lt_or_ge i n.toNatClampNeg with h | h
      · rw [show n.toNatClampNeg - i = (n.toNatClampNeg - (i + 1)) + 1 by omega, List.range'_succ] at hx
        obtain ⟨h1, h2⟩ := List.cons.inj hx
        exact ⟨h, h1, h2⟩
      · rw [show n.toNatClampNeg - i = 0 by omega] at hx
        cases hx
    have hm := hmul x hlt
    have G := ax_gst_Gr T cA cI n.toNatClampNeg k.toNatClampNeg x
    obtain ⟨q1, q2⟩ := (ax_gst_X X cA cI n.toNatClampNeg k.toNatClampNeg x).roomAbove (a := 1) (b := k.toNatClampNeg) (by omega) (by omega)
    have hkI' : (ax_gst T cA cI n.toNatClampNeg k.toNatClampNeg x).vm.classes[cI]? = some kI := by rw [G.2.2.2.2]; exact hkI
    have hkA' : (ax_gst T cA cI n.toNatClampNeg k.toNatClampNeg x).vm.classes[cA]? = some kA := by rw [G.2.2.2.2]; exact hkA
    rw [wp_bind', multianewarray.make, if_neg hk]
    simp only [wp_bind', W.theClass, State.vm_setTop, hkI', Option.some.injEq, exists_eq_left', hI]
    refine W.newArray_of (type := .int) (s := (ax_gst T cA cI n.toNatClampNeg k.toNatClampNeg x).setTop { g with stack := rest }) hkI' hI (hlim _ hK) (hhp _ hK) q1 q2 rfl (fun acts2 => ?_)
    rw [wp_bind', W.writeLoc]
    refine ⟨_, G.pushed _, (by intro h; cases h), (by rw [arrV_size]; exact hlt), ?_, hq _ _ _ ⟨x + 1, rfl, hxs, hlt⟩⟩
    show State.fitsSlot _ cA .none x _ = true
    simp [State.fitsSlot, State.slotType?, hkA', hA]
    rfl
  · rintro st d' acts' ⟨i, rfl, hx, hi⟩
    have ei : i = n.toNatClampNeg := by
      have h := congrArg List.length hx
      rw [List.length_range'] at h
      simp only [List.length_nil] at h
      omega
    subst ei
    simp only [wp_pure', wp_bind', W.mark, W.pushRef, State.topJava?_setTop' _ (ax_gst_X X cA cI n.toNatClampNeg k.toNatClampNeg n.toNatClampNeg).here.top, Option.some.injEq, exists_eq_left', State.setTop_setTop]
    exact kk _ _
/-- a grid of ints is made -/
theorem ax_Wm {p : Program} {l : Launch} {e : Env} {R : Room} {s : State} {m : MethodId} {args : Array Value} {below : List Frame} {meth : Method} {c : Code} {H : Heap} {locs : List Loc} {cells slots : Nat} {Q : State → Prop} {cc : ByteArray} {pc : Nat} {ls : Array Slot} {rest : List Value}
    (hexec : p.tables.exec = Jvm.exec) (hb : c.code = cc) {own : String} {index : Nat} (hown : s.vm.findClass own = some m.cls) (hclink : (Cond.classLink own index ("[" ++ (FieldType.array .int).toString)).before args s = true) (hover : (Cond.arrayOver (.array .int)).before args s = true) (harr : (Cond.arrayClass .int).before args s = true)
    {n k : Int32} (hdg : decode cc pc = .ok (.multianewarray index 2, 4)) (hn : ¬ n < 0) (hk : ¬ k < 0) (hN : n.toNatClampNeg ≤ 1000) (hK : k.toNatClampNeg ≤ 1000) (hc : cells + (1 + n.toNatClampNeg) ≤ R.cells) (hs : slots + (n.toNatClampNeg + n.toNatClampNeg * k.toNatClampNeg) ≤ R.slots)
    (kk : ∀ (H1 : Heap) (cA cI : ClassId), s.vm.findClass ("[" ++ (FieldType.array .int).toString) = some cA → s.vm.findClass (FieldType.array .int).toString = some cI → H1.size = H.size + 1 + n.toNatClampNeg → (∀ q : Nat, q < H.size → H1[q]? = H[q]?) →
      H1[H.size]? = some (arrV cA n.toNatClampNeg (fun j => va_rf (if j < n.toNatClampNeg then some (H.size + 1 + j) else none))) → (∀ j : Nat, j < n.toNatClampNeg → H1[H.size + 1 + j]? = some (arrV cI k.toNatClampNeg (fun _ => .int 0))) →
      W p l e R s m args below meth c H1 locs (cells + 1 + n.toNatClampNeg) (slots + n.toNatClampNeg + n.toNatClampNeg * k.toNatClampNeg) Q (F0 m (pc + 4) ls (.ref H.size :: rest))) :
    W p l e R s m args below meth c H locs cells slots Q (F0 m pc ls (.int k :: .int n :: rest)) := by
  intro T hT Xs
  subst hT
  have hpl : e.platform.magicAccessors = ({} : Platform).magicAccessors := by rw [Xs.admits.platform]
  obtain ⟨cA, cI, kA, fI, fA, hkA, hA⟩ := ax_aov hover
  obtain ⟨cI', kI, ci, fI', hkI, hI⟩ := Cond.arrayClass_spec harr
  have e1 : cI' = cI := Option.some.inj (fI'.symm.trans fI)
  subst e1
  obtain ⟨cL, fL, hl⟩ := Cond.classLink_spec hown hclink e.platform hpl
  have e2 : cL = cA := Option.some.inj (fL.symm.trans fA)
  subst e2
  obtain ⟨g1, w1, r1⟩ := State.classEntry (e := e) Xs.warmed hl
  generalize T.vm.noted m.cls index (.cls cL) = vm1 at g1 w1 r1
  obtain ⟨kA1, hkA1, eA⟩ := w1.alike.2.2 _ _ hkA
  obtain ⟨kI1, hkI1, eI⟩ := w1.alike.2.2 _ _ hkI
  have X1 := Xs.noted w1
  have G := ax_gst_Gr (T.setVm vm1) cL cI' n.toNatClampNeg k.toNatClampNeg n.toNatClampNeg
  obtain ⟨t, a1, b1⟩ := kk _ cL cI' fA fI G.1 G.2.1 G.2.2.1 G.2.2.2.1 _ rfl (ax_gst_X X1 cL cI' n.toNatClampNeg k.toNatClampNeg n.toNatClampNeg)
  refine ⟨t, ?_, b1⟩
  have hdg' : decode c.code (F0 m pc ls (.int k :: .int n :: rest)).pc = .ok (.multianewarray index 2, 4) := by rw [hb]; exact hdg
  jvm_step Xs.here [hexec, hdg']
  rw [ax_gcold Xs.here.top g1 r1 (by no_record)]
  refine ax_gwp X1 (g := F0 m pc ls (.int k :: .int n :: rest)) r1 hkA1 (by rw [eA]; exact hA) hkI1 (by rw [eI]; exact hI) rfl hn hk hN hK hc hs fun d' acts' acts => ?_
  rw [afterInstr_ok]
  exact a1
