/-! Over the library without its shelf of JDK members: a method in whose place an entry of the table of natives runs, and an array of three rows of thirty doubles -/
section OWN
variable {p : Program} {l : Launch} {e : Env} {R : Room} {s : State} {m : MethodId} {args : Array Value} {below : List Frame} {meth : Method} {c : Code} {locs : List Loc} {cells slots : Nat}
/-- the values among the locals, in their order -/
def ow_val : Slot → Option Value
  | .val v => some v
  | _ => none
/-- an entry that answers v and moves nothing -/
def ow_pure (e : Env) (row : NativeRow) (av : List Value) (v : Value) : Prop := ∀ S : State, ∃ acts, (row.sem av.toArray).run e S = .ok (some v) S acts
theorem ow_find {tb : Tables} {e : Env} {S : State} {f : JFrame} {k : Class} {x : Method} {row : NativeRow} (h0 : f.pc = 0) (hk : S.vm.classes[f.method.cls]? = some k) (hin : overriddenIn.contains k.name = true) (hl : k.loader = none) (hx : k.methods[f.method.idx]? = some x)
    (hr : NativeRow.find? tb.natives k.name x.name x.desc = some row) : overridden tb e S f = some row := by
  unfold overridden
  rw [if_neg (by rw [h0]; decide)]
  simp only [hk, hin, hl, hx, hr]
  simp
/-- the call of such a method: in, by its entry, and out again -/
theorem ow_back {y : MethodName} {bytes : ByteArray} {maxL : Nat} {ret : Option FieldType} {len W : Nat} {row : NativeRow} {av : List Value} {v : Value}
    (hcode : (Cond.code y bytes maxL ret).before args s = true) (hin : overriddenIn.contains y.cls = true) (hrow : NativeRow.find? p.tables.natives y.cls y.name y.desc = some row)
    (hloc : (argsToLocals av.toArray maxL).toList.filterMap ow_val = av) (hnum : ∀ sig, parseMethodDescriptor y.desc = some sig → sig.parameters.length = av.length)
    (hsem : ow_pure e row av v) (hfr : 1 ≤ R.frames) (hlo : W + (maxL + 11) ≤ R.locals) :
    Back l R p e below s args y len W (fun _ a => a = av.toArray) (fun A _ u B => u = some v ∧ B = A) := by
  intro m meth c A g ig mk a X hg hsize hdg hW hnm ha
  subst ha
  have hcU : (Cond.code y bytes maxL ret).before args A.U = true := Cond.tabsOnly_warm (args' := args) (T := A.U) X.warmed _ rfl hcode
  obtain ⟨mt, cd, hmt, hcd, -, hml, -, hlk, -, hsg⟩ := Cond.code_spec hnm hcU
  obtain ⟨k, hk, hkn⟩ := className_of_methodNamed hnm
  obtain ⟨hn1, hn2⟩ := name_of_methodNamed hnm hmt
  have hx : k.methods[mk.idx]? = some mt := by simpa [Vm.method?, hk] using hmt
  have hl : k.loader = none := Vm.bootOf_findClass (findClass_of_methodNamed hnm) hk
  refine ⟨some v, A, X, ⟨rfl, rfl⟩, ?_⟩
  have hfull := X.notFull (g := g) hsize (vars := cd.maxLocals) hfr (by rw [hml]; omega)
  rw [(doInvoke_java (s := A.U.setTop g) (e := e) (acts := []) (args := av.toArray) hmt hcd hlk hfull).1, hml]
  generalize hF : ({ method := mk, pc := 0, locals := argsToLocals av.toArray maxL, stack := [], locked := none } : JFrame) = F
  have f0 : F.pc = 0 := by rw [← hF]
  have f1 : F.method = mk := by rw [← hF]
  have f2 : F.locked = none := by rw [← hF]
  have f3 : F.locals.toList.filterMap ow_val = av := by rw [← hF]; exact hloc
  have hfe := frames_entered (g := g) X.here.top (.java F)
  rw [X.tail] at hfe
  generalize hS : (A.U.setTop g).pushFrame (.java F) = S at hfe
  have hvm : S.vm = A.U.vm := by rw [← hS]; rfl
  have hov : overridden p.tables e S F = some row := ow_find f0 (by rw [hvm, f1]; exact hk) (by rw [hkn]; exact hin) hl (by rw [f1]; exact hx) (by rw [hkn, hn1, hn2]; exact hrow)
  have hcnt : av.length ≤ argCount S F.method := by
    unfold argCount
    rw [hvm, f1, hk]
    simp only [Option.bind_some, hx]
    rw [hnum _ hsg]
    omega
  have hgiven : (F.locals.toList.filterMap ow_val).toArray.extract 0 (argCount S F.method) = av.toArray := by
    rw [f3, Array.extract_eq_self_of_le (by simpa using hcnt)]
  obtain ⟨acts, hr⟩ := hsem (S.setFrames (.native { method := mk, args := av.toArray, locked := none } :: .java g :: below))
  have hcur : S.cur < S.threads.size := State.cur_lt_of_frames hfe
  have hst : (stepThread p.tables e S).1 = A.U.setTop { g with pc := g.pc + len, stack := (some v).toList ++ g.stack } := by
    unfold stepThread
    simp only [hfe, hov]
    show (afterNative e { method := F.method, args := (F.locals.toList.filterMap ow_val).toArray.extract 0 (argCount S F.method), locked := F.locked } (.java g :: below) ((row.sem ((F.locals.toList.filterMap ow_val).toArray.extract 0 (argCount S F.method))).run e (S.setFrames (.native { method := F.method, args := (F.locals.toList.filterMap ow_val).toArray.extract 0 (argCount S F.method), locked := F.locked } :: .java g :: below)))).1 = _
    rw [hgiven, f1, f2, hr]
    show (doReturn e _ acts (some v)).1 = _
    rw [doReturn_native (f := { method := mk, args := av.toArray, locked := none }) (below := .java g :: below) (fs := .java { g with pc := g.pc + len, stack := (some v).toList ++ g.stack } :: below) (State.frames_setFrames _ hcur) rfl ?_]
    · obtain ⟨g0, hg0⟩ := X.frames_eq
      rw [State.setFrames_setFrames, ← hS, State.setFrames_pushFrame, State.setFrames_setTop X.here.top, State.setTop_of_frames _ hg0]
    · have hc : (S.setFrames (.native { method := mk, args := av.toArray, locked := none } :: .java g :: below)).code? g.method = some c := by
        have h := X.here.code
        rw [State.code?_eq] at h ⊢
        rw [hg]
        show S.vm.method? m >>= _ = _
        rw [hvm]
        exact h
      simp only [handOver, hc]
      simp [hdg, Except.toOption]
  refine Steps.head ⟨?_, ?_, ?_⟩ ⟨[.java F, .java g], by rw [hfe]; rfl, by simp, by simp⟩ ?_
  · rw [← hS]; exact X.here.running
  · rw [← hS]; simpa using X.here.runnable
  · rw [← hS]; simpa using X.here.alone
  · rw [hst]; exact Steps.refl _
/-! three rows of thirty -/
def mz_f (h i : Nat) : Nat → Value := fun j => va_rf (if j < i then some (h + 1 + j) else none)
def mz_in (cI : ClassId) : Cell := arrV cI 30 (fun _ => .double 0)
def mz_out (cA : ClassId) (h i : Nat) : Cell := arrV cA 3 (mz_f h i)
/-- the state with the outer array and its first i rows -/
def mz_S (U : State) (cA cI : ClassId) : Nat → State
  | 0 => U.pushCell (mz_out cA U.heap.size 0)
  | i + 1 => ((mz_S U cA cI i).pushCell (mz_in cI)).setCell U.heap.size ((mz_out cA U.heap.size i).setSlot i (.ref (U.heap.size + 1 + i)))
theorem mz_next (cA : ClassId) (h i : Nat) : (mz_out cA h i).setSlot i (.ref (h + 1 + i)) = mz_out cA h (i + 1) := by
  unfold mz_out
  rw [arrV_store]
  refine congrArg (arrV cA 3) (funext fun j => ?_)
  unfold updV mz_f
  rcases Nat.lt_trichotomy j i with q | q | q
  · rw [if_neg (by omega), if_pos q, if_pos (by omega)]
  · subst q; rw [if_pos rfl, if_pos (by omega)]; rfl
  · rw [if_neg (by omega), if_neg (by omega), if_neg (by omega)]
theorem mz_top (U : State) (cA cI : ClassId) (f : JFrame) : ∀ i, mz_S (U.setTop f) cA cI i = (mz_S U cA cI i).setTop f
  | 0 => rfl
  | i + 1 => by
    show ((mz_S (U.setTop f) cA cI i).pushCell _).setCell _ _ = _
    rw [mz_top U cA cI f i]
    rfl
theorem mz_vm (U : State) (cA cI : ClassId) : ∀ i, (mz_S U cA cI i).vm = U.vm
  | 0 => rfl
  | i + 1 => mz_vm U cA cI i
theorem mz_size (U : State) (cA cI : ClassId) : ∀ i, (mz_S U cA cI i).heap.size = U.heap.size + 1 + i
  | 0 => State.heap_size_pushCell _ _
  | i + 1 => by
    show (((mz_S U cA cI i).heap.push _).setIfInBounds _ _).size = _
    rw [Array.size_setIfInBounds, Array.size_push, mz_size U cA cI i]
    omega
theorem mz_used (U : State) (cA cI : ClassId) : ∀ i, (mz_S U cA cI i).slotsUsed = U.slotsUsed + 3 + 30 * i
  | 0 => by
    show U.slotsUsed + (mz_out cA U.heap.size 0).slots.size = _
    rw [show (mz_out cA U.heap.size 0).slots.size = 3 from arrV_size _ _ _]
  | i + 1 => by
    show (mz_S U cA cI i).slotsUsed + (mz_in cI).slots.size = _
    rw [mz_used U cA cI i, show (mz_in cI).slots.size = 30 from arrV_size _ _ _]
    omega
theorem mz_mid (U : State) (cA cI : ClassId) : ∀ i, (mz_S U cA cI i).heap[U.heap.size]? = some (mz_out cA U.heap.size i)
  | 0 => State.heap_pushCell_size _ _
  | i + 1 => by
    have h := mz_mid U cA cI i
    have hlt : U.heap.size < (mz_S U cA cI i).heap.size := by rw [mz_size]; omega
    rw [← mz_next]
    exact State.heap_setCell_self (c := mz_out cA U.heap.size i) (by rw [State.heap_pushCell_of_lt (h := hlt)]; exact h)
theorem mz_far (U : State) (cA cI : ClassId) {q : Nat} : ∀ i, q ≠ U.heap.size → q < U.heap.size + 1 + i → ∀ k, (mz_S U cA cI (i + k)).heap[q]? = (mz_S U cA cI i).heap[q]?
  | _, _, _, 0 => rfl
  | i, h1, h2, k + 1 => by
    show (((mz_S U cA cI (i + k)).pushCell _).setCell _ _).heap[q]? = _
    rw [State.heap_setCell_other (Ne.symm h1), State.heap_pushCell_of_lt (h := (show q < (mz_S U cA cI (i + k)).heap.size by rw [mz_size]; omega))]
    exact mz_far U cA cI i h1 h2 k
theorem mz_old (U : State) (cA cI : ClassId) {q : Nat} (hq : q < U.heap.size) (k : Nat) : (mz_S U cA cI k).heap[q]? = U.heap[q]? := by
  have h := mz_far U cA cI (q := q) 0 (by omega) (by omega) k
  rw [Nat.zero_add] at h
  rw [h]
  exact State.heap_pushCell_of_lt U _ hq
theorem mz_new (U : State) (cA cI : ClassId) (i k : Nat) : (mz_S U cA cI (i + 1 + k)).heap[U.heap.size + 1 + i]? = some (mz_in cI) := by
  rw [mz_far U cA cI (i + 1) (by omega) (by omega) k]
  show (((mz_S U cA cI i).pushCell _).setCell _ _).heap[_]? = _
  rw [State.heap_setCell_other (show U.heap.size ≠ U.heap.size + 1 + i by omega), ← mz_size U cA cI i]
  exact State.heap_pushCell_size _ _
theorem mz_stand {U : State} (X : Stand p l e R s m args below meth c U locs cells slots) (hg : s.heap.size ≤ U.heap.size) (cA cI : ClassId) : ∀ i, Stand p l e R s m args below meth c (mz_S U cA cI i) locs (cells + 1 + i) (slots + 3 + 30 * i)
  | 0 => by
    have h := X.pushed (mz_out cA U.heap.size 0)
    rw [show (mz_out cA U.heap.size 0).slots.size = 3 from arrV_size _ _ _] at h
    exact h
  | i + 1 => by
    have h := (mz_stand X hg cA cI i).pushed (mz_in cI)
    rw [show (mz_in cI).slots.size = 30 from arrV_size _ _ _] at h
    have hlt : U.heap.size < (mz_S U cA cI i).heap.size := by rw [mz_size]; omega
    have h2 := h.stored (a := U.heap.size) (cell := mz_out cA U.heap.size i) (by rw [State.heap_pushCell_of_lt (h := hlt)]; exact mz_mid U cA cI i) i (.ref (U.heap.size + 1 + i))
    have h3 := h2.forget (by intro y hy; rw [List.mem_singleton.mp hy]; exact hg)
    rw [show slots + 3 + 30 * (i + 1) = slots + 3 + 30 * i + 30 by omega]
    exact h3
theorem mz_alloc {E : CtlPost} {d : Bool} {acts : List Action} {S : State} {cA comp : ClassId} {k : Class} {ty : FieldType} {n : Nat} {v : Value} {cell : Cell} (hcell : ({ cls := cA, slots := Array.replicate n v, vm := .none } : Cell) = cell)
    (hk : S.vm.classes[cA]? = some k) (hkind : k.kind = .array comp ty) (hfit : fits ty v = true) (hl : n ≤ e.platform.arrayLengthLimit) (hb : n * componentBytes ty ≤ e.platform.maxHeapBytes) (h1 : S.heap.size < e.platform.maxCells) (h2 : S.slotsUsed + n ≤ e.platform.maxSlots)
    {Q : Addr → Pre} (hq : ∀ acts', Q S.heap.size d acts' (S.pushCell cell)) : wp (Jvm.newArray cA n v) Q E e d acts S := by
  subst hcell
  have a1 : ¬ n > e.platform.arrayLengthLimit := by omega
  have a2 : ¬ n * componentBytes ty > e.platform.maxHeapBytes := by omega
  have a3 : ¬ n > e.platform.maxSlots := by omega
  unfold Jvm.newArray Jvm.arrayFits
  simp only [wp_bind', W.ask, W.ite, a1, if_false, wp_pure', W.theClass, hk, hkind, Option.some.injEq, exists_eq_left', a2, a3, W.alloc]
  refine ⟨h1, by simpa using h2, fun i w hw => ?_, hq _⟩
  have hw2 : w = v := by
    rw [Array.getElem?_replicate] at hw
    split at hw
    · exact (Option.some.inj hw).symm
    · cases hw
  subst hw2
  unfold State.fitsSlot State.slotType?
  simp [hk, hkind, hfit]
theorem mz_make {E : CtlPost} {d : Bool} {acts : List Action} {U : State} {cA cI cc : ClassId} {kA kI : Class} (hkA : U.vm.classes[cA]? = some kA) (hA : kA.kind = .array cI (.array .double)) (hkI : U.vm.classes[cI]? = some kI) (hI : kI.kind = .array cc .double)
    (hl : 30 ≤ e.platform.arrayLengthLimit) (hb : 240 ≤ e.platform.maxHeapBytes) (h1 : U.heap.size + 4 ≤ e.platform.maxCells) (h2 : U.slotsUsed + 93 ≤ e.platform.maxSlots)
    {Q : Addr → Pre} (hq : ∀ d' acts', Q U.heap.size d' acts' (mz_S U cA cI 3)) : wp (multianewarray.make cA [3, 30]) Q E e d acts U := by
  have row : ∀ (i : Nat) (d : Bool) (acts : List Action) (P : Addr → Pre), i < 3 → (∀ acts', P (U.heap.size + 1 + i) d acts' ((mz_S U cA cI i).pushCell (mz_in cI))) → wp (multianewarray.make cI [30]) P E e d acts (mz_S U cA cI i) := by
    intro i d acts P hi hP
    rw [multianewarray.make]
    simp only [wp_bind', W.ite, wp_pure', W.theClass, mz_vm, hkI, hI, Option.some.injEq, exists_eq_left']
    rw [if_neg (by decide)]
    refine mz_alloc (cell := mz_in cI) (arrV_new cI 30 (.double 0)) (by rw [mz_vm]; exact hkI) hI rfl hl hb (by rw [mz_size]; omega) (by rw [mz_used]; show _ + 30 ≤ _; omega) (fun acts' => ?_)
    rw [mz_size]
    exact hP acts'
  have put : ∀ (i : Nat) (d : Bool) (acts : List Action) (P : Unit → Pre), i < 3 → (∀ d' acts', P () d' acts' (mz_S U cA cI (i + 1))) → wp (Jvm.writeLoc U.heap.size i (.ref (U.heap.size + 1 + i))) P E e d acts ((mz_S U cA cI i).pushCell (mz_in cI)) := by
    intro i d acts P hi hP
    have hlt : U.heap.size < (mz_S U cA cI i).heap.size := by rw [mz_size]; omega
    rw [W.writeLoc]
    refine ⟨mz_out cA U.heap.size i, by rw [State.heap_pushCell_of_lt (h := hlt)]; exact mz_mid U cA cI i, (fun h => by cases h), by rw [show (mz_out cA U.heap.size i).slots.size = 3 from arrV_size _ _ _]; exact hi, ?_, hP _ _⟩
    unfold State.fitsSlot State.slotType?
    have hv : ((mz_S U cA cI i).pushCell (mz_in cI)).vm.classes[(mz_out cA U.heap.size i).cls]? = some kA := by
      show (mz_S U cA cI i).vm.classes[cA]? = some kA
      rw [mz_vm]; exact hkA
    rw [hv]
    show (match (match kA.kind with | .array _ type => some type | _ => _) with | some t => fits t _ | none => false) = true
    rw [hA]
    rfl
  rw [multianewarray.make]
  simp only [wp_bind', W.ite, wp_pure', W.theClass, hkA, hA, Option.some.injEq, exists_eq_left']
  rw [if_neg (by decide)]
  refine mz_alloc (cell := mz_out cA U.heap.size 0) ?_ hkA hA rfl (show 3 ≤ _ by omega) (show 12 ≤ _ by omega) (by omega) (show _ + 3 ≤ _ by omega) (fun acts' => ?_)
  · rw [arrV_new]
    exact congrArg (arrV cA 3) (funext fun j => by unfold mz_f; rw [if_neg (by omega)]; rfl)
  rw [if_neg (by decide)]
  rw [Std.Legacy.Range.forIn_eq_forIn_range']
  rw [show List.range' ([:(3 : Int32).toNatClampNeg] : Std.Legacy.Range).start ([:(3 : Int32).toNatClampNeg] : Std.Legacy.Range).size ([:(3 : Int32).toNatClampNeg] : Std.Legacy.Range).step = [0, 1, 2] from rfl]
  simp only [List.forIn_cons, List.forIn_nil, wp_bind', wp_pure']
  refine row 0 _ _ _ (by omega) (fun a1 => ?_)
  simp only [wp_bind']
  refine put 0 _ _ _ (by omega) (fun d2 a2 => ?_)
  simp only [wp_bind', wp_pure']
  refine row 1 _ _ _ (by omega) (fun a3 => ?_)
  simp only [wp_bind']
  refine put 1 _ _ _ (by omega) (fun d4 a4 => ?_)
  simp only [wp_bind', wp_pure']
  refine row 2 _ _ _ (by omega) (fun a5 => ?_)
  simp only [wp_bind']
  refine put 2 _ _ _ (by omega) (fun d6 a6 => ?_)
  simp only [wp_bind', wp_pure']
  exact hq _ _
theorem ow_mna {cc : ByteArray} {H : Heap} {Q : State → Prop} {pc : Nat} {ls : Array Slot} {rest : List Value} (hexec : p.tables.exec = Jvm.exec) (hb : c.code = cc) {own : String} {index : Nat} (hown : s.vm.findClass own = some m.cls) (hclink : (Cond.classLink own index "[[D").before args s = true) (hover : va_AOA .double s)
    (harr : (Cond.arrayClass .double).before args s = true) (hcells : cells + 4 ≤ R.cells) (hslots : slots + 93 ≤ R.slots) {k n : Int32} (hk : k = 30) (hn : n = 3) (hdg : decode cc pc = .ok (.multianewarray index 2, 4))
    (kk : ∀ (H1 : Heap) (cA cI : ClassId), s.vm.findClass "[[D" = some cA → s.vm.findClass "[D" = some cI → H1.size = H.size + 4 → (∀ q, q < H.size → H1[q]? = H[q]?) → H1[H.size]? = some (arrV cA 3 (mz_f H.size 3)) → (∀ j, j < 3 → H1[H.size + 1 + j]? = some (arrV cI 30 (fun _ => .double 0))) →
      W p l e R s m args below meth c H1 locs (cells + 4) (slots + 93) Q (F0 m (pc + 4) ls (.ref H.size :: rest))) : W p l e R s m args below meth c H locs cells slots Q (F0 m pc ls (.int k :: .int n :: rest)) := by
  intro T hT X
  subst hT; subst hb; subst hk; subst hn
  obtain ⟨cI, cA, kA, hI, -, hkA, hA, hnA⟩ := arrayOverA_spec (va_AOA.use (A := args) hover)
  obtain ⟨cI', kI, cc, hI', hkI, hkindI⟩ := Cond.arrayClass_spec harr
  have eI : cI' = cI := Option.some.inj (hI'.symm.trans hI)
  subst eI
  obtain ⟨cA', hA', hlk⟩ := Cond.classLink_spec hown hclink e.platform (by rw [X.admits.platform])
  have eA : cA' = cA := Option.some.inj (hA'.symm.trans hnA)
  subst eA
  obtain ⟨hgv, hwm, -⟩ := State.classEntry (e := e) X.warmed hlk
  generalize T.vm.noted m.cls index (.cls cA') = vm1 at hgv hwm
  obtain ⟨kA1, hkA1, heA⟩ := hwm.alike.2.2 _ _ hkA
  obtain ⟨kI1, hkI1, heI⟩ := hwm.alike.2.2 _ _ hkI
  have XU := mz_stand (X.noted hwm) (show s.heap.size ≤ (T.setVm vm1).heap.size from X.same.2.1) cA' cI' 3
  obtain ⟨r1, r2⟩ := X.roomAbove hcells hslots
  obtain ⟨t, a1, b1⟩ := kk (mz_S (T.setVm vm1) cA' cI' 3).heap cA' cI' hA' hI' (mz_size (T.setVm vm1) cA' cI' 3) (fun q hq => mz_old (T.setVm vm1) cA' cI' hq 3) (mz_mid (T.setVm vm1) cA' cI' 3)
    (fun j hj => by
      have h := mz_new (T.setVm vm1) cA' cI' j (2 - j)
      rw [show j + 1 + (2 - j) = 3 by omega] at h
      exact h) (mz_S (T.setVm vm1) cA' cI' 3) rfl XU
  refine ⟨t, ?_, b1⟩
  jvm_step X.here [hexec, hdg]
  unfold multianewarray.sem
  rw [wp_bind', W.resolveClassAt_links (t := T.setTop (F0 m pc ls (.int 30 :: .int 3 :: rest))) (mm := m) (vm' := vm1) (State.method?_setTop (F0 m pc ls (.int 30 :: .int 3 :: rest)) X.here.top) hgv]
  simp only [wp_bind']
  rw [W.popN, if_neg (by decide)]
  refine ⟨F0 m pc ls (.int 30 :: .int 3 :: rest), State.topJava?_setTop' (s := T.setVm vm1) _ X.here.top, [.int 3, .int 30], rest, rfl, rfl, ?_⟩
  simp only [List.mapM_cons, List.mapM_nil, wp_bind', wp_pure']
  have e0 : ((T.setTop (F0 m pc ls (.int 30 :: .int 3 :: rest))).setVm vm1).setTop { method := m, pc := pc, locals := ls, stack := rest, locked := none } = (T.setVm vm1).setTop (F0 m pc ls rest) := by
    show ((T.setVm vm1).setTop _).setTop _ = _
    exact State.setTop_setTop _ _ _
  rw [e0]
  refine mz_make (U := (T.setVm vm1).setTop (F0 m pc ls rest)) hkA1 (by rw [heA]; exact hA) hkI1 (by rw [heI]; exact hkindI) (by rw [Launch.admits_arrayLengthLimit X.admits]; omega) (by rw [Launch.admits_maxHeapBytes X.admits]; omega) r1 r2 (fun d1 acts1 => ?_)
  rw [mz_top]
  have ht := XU.here.top
  simp only [wp_bind', W.mark, W.pushRef, State.topJava?_setTop' _ ht, Option.some.injEq, exists_eq_left', State.setTop_setTop]
  intro acts2
  simp [jvm, ht]
  exact a1
/-! Math.max and Math.min of two doubles that are no NaNs -/
set_option maxRecDepth 100000 in
theorem ow_max (p : Program) : NativeRow.find? p.tables.natives "java/lang/Math" "max" "(DD)D" = (Native.java_lang_Math.nans.extremum "max" true "nat.java_lang_Math.max" "nat.java_lang_Math.max/float").head? := by
  cases p <;> rfl
set_option maxRecDepth 100000 in
theorem ow_min (p : Program) : NativeRow.find? p.tables.natives "java/lang/Math" "min" "(DD)D" = (Native.java_lang_Math.nans.extremum "min" false "nat.java_lang_Math.min" "nat.java_lang_Math.min/float").head? := by
  cases p <;> rfl
theorem ow_pick {nm r1 r2 : String} {gr : Bool} {row : NativeRow} (h : (Native.java_lang_Math.nans.extremum nm gr r1 r2).head? = some row) {x y : UInt64} (hx : FP.dIsNaN x = false) (hy : FP.dIsNaN y = false) : ow_pure e row [.double x, .double y] (.double (Native.java_lang_Math.nans.pick64 gr x y)) := by
  intro S
  cases h
  show ∃ acts, Sem.run (do
      let r ← if FP.dIsNaN x then anyNaN64 x else if FP.dIsNaN y then anyNaN64 y else Pure.pure (Native.java_lang_Math.nans.pick64 gr x y)
      mark r1
      Pure.pure (some (Value.double r))) e S = _
  rw [hx, hy]
  exact ⟨_, rfl⟩
theorem ow_two (x y : UInt64) : (argsToLocals [Value.double x, Value.double y].toArray 4).toList.filterMap ow_val = [.double x, .double y] := rfl
theorem ow_dd : ∀ sig, parseMethodDescriptor "(DD)D" = some sig → sig.parameters.length = 2 := by
  intro sig h
  have h2 : (parseMethodDescriptor "(DD)D").map (fun d => d.parameters.length) = some 2 := by decide +kernel
  rw [h] at h2
  exact Option.some.inj h2
end OWN
