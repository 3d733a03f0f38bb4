/-! worlds of one shape: wd gives the cells by a state; the addresses don't depend on the state -/
def gA (A0 : Nat → Prop) (sz : Nat) : Nat → Prop := fun q => A0 q ∨ sz ≤ q
theorem gA_mono {A0 : Nat → Prop} {a b : Nat} (h : a ≤ b) : ∀ q, gA A0 b q → gA A0 a q := fun _ h1 => h1.elim Or.inl (fun h2 => Or.inr (Nat.le_trans h h2))
def gF : Nat → Prop := fun _ => False
theorem gF_sub {A0 : Nat → Prop} {a b : Nat} (h : a ≤ b) : ∀ q, gA gF b q → gA A0 a q := fun _ h1 => h1.elim (fun h2 => h2.elim) (fun h2 => Or.inr (Nat.le_trans h h2))
def gB {σ : Type} (D : va_G) (wd : σ → va_W) : σ → State → Prop := fun u t => va_P D vwCl (wd u) t.heap
def gP {σ : Type} (D : va_G) (wd : σ → va_W) (E : State → Prop) (S : σ) (sz : Nat) (av : List Value) : Array Value → State → Prop := va_Pc av (fun U => U.heap.size = sz ∧ va_P D vwCl (wd S) U.heap ∧ E U)
def gE (E : State → Prop) : Prop := ∀ (U : State) (g : JFrame) (mk : MethodId) (a : Array Value), E U → E (U.calling g mk a)
theorem gP_blind {σ : Type} {D : va_G} {wd : σ → va_W} {E : State → Prop} {S : σ} {sz : Nat} {av : List Value} (h : gE E) : FrameBlind (gP D wd E S sz av) := fun a U g mk q => ⟨q.1, q.2.1, q.2.2.1, h U g mk a q.2.2.2⟩
/-- no world -/
abbrev w0 : Unit → va_W := fun _ => []
theorem w0_P {D : va_G} {H : Heap} : va_P D vwCl (w0 ()) H := fun k q h => by simp at h
theorem gPreV {σ : Type} {D : va_G} {wd : σ → va_W} {E : State → Prop} {S : σ} {s : State} {H : Heap} {C : String} {b : Addr} {As : List Value} (hbl : gE E) (hrec : ∃ cellB : Cell, H[b]? = some cellB ∧ cellB.vm.isStatics = false ∧ s.vm.findClass C = some cellB.cls) (hP : va_P D vwCl (wd S) H) (hEU : ∀ U : State, U.heap = H → s.WarmedH U.vm → E U) : PreV s H C b (gP D wd E S H.size (.ref b :: As)) As := ⟨gP_blind hbl, hrec, fun U hU hW => ⟨rfl, by rw [hU], by rw [hU]; exact hP, hEU U hU hW⟩⟩
theorem gPreS {σ : Type} {D : va_G} {wd : σ → va_W} {E : State → Prop} {S : σ} {s : State} {H : Heap} {As : List Value} (hbl : gE E) (hP : va_P D vwCl (wd S) H) (hEU : ∀ U : State, U.heap = H → s.WarmedH U.vm → E U) : PreS s H (gP D wd E S H.size As) As := ⟨gP_blind hbl, fun U hU hW => ⟨rfl, by rw [hU], by rw [hU]; exact hP, hEU U hU hW⟩⟩
def eT : State → Prop := fun _ => True
theorem eT_bl : gE eT := fun _ _ _ _ _ => trivial
theorem Met.ofWF {l : Launch} {y : MethodName} {ws ws' : List Cond} {rm : Room} {Pc : Array Value → State → Prop} {Qc : Array Value → State → Outcome → State → Prop} {mc ms : Nat} {free : Addr → Prop} {cc : ByteArray} {maxL : Nat} {ret : Option FieldType}
    (hy : plainFor y = true) (hw : ws = Cond.code y cc maxL ret :: ws')
    (body : ∀ p e s m args below meth c s₁, BodyLoose p l y (headSpec ws rm) cc maxL ret e s m args below meth c s₁ → c.maxLocals = maxL → Pc args s →
      W p l e (headSpec ws rm).room s m args below meth c s.heap [] 0 0 (MQ below Qc args s mc ms free) (entryFrame m args maxL)) : Met l y ws rm Pc Qc mc ms free := by
  refine MetFree.of_bodySF (code := cc) (maxLocals := maxL) (ret := ret) hy ?_ ?_
  · intro args s m h hn
    obtain ⟨meth, c, h1, h2, h3, h4, h5, h6, -, -⟩ := Cond.code_spec hn (atoms_spec (ws := ws) h _ (by rw [hw]; exact List.mem_cons_self))
    exact ⟨meth, c, h1, h2, h3, h4, h5, h6⟩
  · intro p e s m args below meth c s₁ B hml hP _
    have hh0 : s₁.heap = s.heap := by rw [B.state]; rfl
    obtain ⟨t, a1, o, b1, b2, b3⟩ := body p e s m args below meth c s₁ B hml hP s₁ hh0 (Stand.of_body B)
    exact ⟨t, o, a1, b1, b2, ⟨b3.1, b3.2⟩⟩
theorem gMet {σ : Type} {D : va_G} {wd : σ → va_W} {E : State → Prop} {S : σ} {sz : Nat} {av : List Value} {l : Launch} {y : MethodName} {ws ws' : List Cond} {rm : Room} {Qc : Array Value → State → Outcome → State → Prop} {mc ms : Nat} {free : Addr → Prop} {cc : ByteArray} {maxL : Nat} {ret : Option FieldType}
    (hy : plainFor y = true) (hw : ws = Cond.code y cc maxL ret :: ws') (hal : (lg_sl av).length ≤ maxL)
    (body : ∀ (p : Program) (e : Env) (s : State) (m : MethodId) (below : List Frame) (meth : Method) (c : Code), p.tables.exec = Jvm.exec → c.code = cc → meth.sig.returnType = ret → (∀ w ∈ ws, w.before av.toArray s = true) → s.vm.findClass y.cls = some m.cls → meth.locks = false → c.maxLocals = maxL → meth.name = y.name → s.heap.size = sz → va_P D vwCl (wd S) s.heap → E s → ∀ ls : Array Slot, lv_has ls maxL (lv_args 0 av) →
      W p l e rm s m av.toArray below meth c s.heap [] 0 0 (MQ below Qc av.toArray s mc ms free) (F0 m 0 ls [])) : Met l y ws rm (gP D wd E S sz av) Qc mc ms free := by
  refine Met.ofWF (cc := cc) (maxL := maxL) (ret := ret) hy hw ?_
  intro p e s m args below meth c s₁ B hml hv
  obtain ⟨rfl, hsz, hP, hE⟩ := hv
  have hts := atoms_spec (ws := ws) B.pre
  rw [lg_entry_eq]
  exact body p e s m below meth c B.exec B.bytes B.returns hts (findClass_of_methodNamed B.named) B.notSynchronized hml ((name_of_methodNamed B.named B.method).1) hsz hP hE _ (lv_entry av hal)
section GW
variable {p : Program} {l : Launch} {e : Env} {R : Room} {s : State} {m : MethodId} {args : Array Value} {below : List Frame} {meth : Method} {c : Code} {H : Heap} {locs : List Loc} {cells slots : Nat} {Q : State → Prop}
variable {cc : ByteArray} {pc : Nat} {ls : Array Slot} {rest st0 : List Value} {D : va_G} {cl : List vw_C} {A : Nat → Prop} {A0 : Nat → Prop} {a : Nat} {tys : List (ClassId × FieldType)} {ws : va_W} {H0 : Heap} {σ : Type} {wd : σ → va_W} {av : Array Value}
-- calls of methods of the same world
theorem gci {post : Int32 → σ → Prop} (hr : va_Run p l e R s m args below meth c H locs cells slots 0 0 (F0 m pc ls st0) rest (va_Qi post (gB D wd) (gA A0 H.size) av) (gA A0 H.size)) (hS : va_S (gA A0 s.heap.size) s.heap H locs)
    (kk : ∀ (r : Int32) (u : σ) (H1 : Heap) (locs1 : List Loc), post r u → va_P D vwCl (wd u) H1 → va_S (gA A0 s.heap.size) s.heap H1 locs1 → W p l e R s m args below meth c H1 locs1 cells slots Q (F0 m (pc + 3) ls (.int r :: rest))) : W p l e R s m args below meth c H locs cells slots Q (F0 m pc ls st0) :=
  va_calli hr hS (fun q _ h => gA_mono hS.1 q h) (fun q h => gA_mono hS.1 q h) (fun r u t H1 locs1 ht _ hw hB _ _ hS1 => kk r u H1 locs1 hw (by subst ht; exact hB) hS1)
theorem gcd {post : UInt64 → σ → Prop} (hr : va_Run p l e R s m args below meth c H locs cells slots 0 0 (F0 m pc ls st0) rest (va_Qd post (gB D wd) (gA A0 H.size) av) (gA A0 H.size)) (hS : va_S (gA A0 s.heap.size) s.heap H locs)
    (kk : ∀ (r : UInt64) (u : σ) (H1 : Heap) (locs1 : List Loc), post r u → va_P D vwCl (wd u) H1 → va_S (gA A0 s.heap.size) s.heap H1 locs1 → W p l e R s m args below meth c H1 locs1 cells slots Q (F0 m (pc + 3) ls (.double r :: rest))) : W p l e R s m args below meth c H locs cells slots Q (F0 m pc ls st0) :=
  va_calld hr hS (fun q _ h => gA_mono hS.1 q h) (fun q h => gA_mono hS.1 q h) (fun r u t H1 locs1 ht _ hw hB _ _ hS1 => kk r u H1 locs1 hw (by subst ht; exact hB) hS1)
theorem gcv {post : σ → Prop} (hr : va_Run p l e R s m args below meth c H locs cells slots 0 0 (F0 m pc ls st0) rest (va_Qv post (gB D wd) (gA A0 H.size) av) (gA A0 H.size)) (hS : va_S (gA A0 s.heap.size) s.heap H locs)
    (kk : ∀ (u : σ) (H1 : Heap) (locs1 : List Loc), post u → va_P D vwCl (wd u) H1 → va_S (gA A0 s.heap.size) s.heap H1 locs1 → W p l e R s m args below meth c H1 locs1 cells slots Q (F0 m (pc + 3) ls rest)) : W p l e R s m args below meth c H locs cells slots Q (F0 m pc ls st0) :=
  va_callv hr hS (fun q _ h => gA_mono hS.1 q h) (fun q h => gA_mono hS.1 q h) (fun u t H1 locs1 ht _ hw hB _ _ hS1 => kk u H1 locs1 hw (by subst ht; exact hB) hS1)
-- calls of methods without a world
theorem g0i {post : Int32 → Unit → Prop} {B : Unit → State → Prop} (hr : va_Run p l e R s m args below meth c H locs cells slots 0 0 (F0 m pc ls st0) rest (va_Qi post B (gA gF H.size) av) (gA gF H.size)) (hP : va_P D cl ws H) (hS : va_S (gA A0 s.heap.size) s.heap H locs)
    (kk : ∀ (r : Int32) (H1 : Heap) (locs1 : List Loc), post r () → va_P D cl ws H1 → va_S (gA A0 s.heap.size) s.heap H1 locs1 → W p l e R s m args below meth c H1 locs1 cells slots Q (F0 m (pc + 3) ls (.int r :: rest))) : W p l e R s m args below meth c H locs cells slots Q (F0 m pc ls st0) :=
  va_calli hr hS (fun q _ h => gF_sub hS.1 q h) (fun q h => gF_sub hS.1 q h) (fun r u t H1 locs1 ht _ hw hB _ hk hS1 => kk r H1 locs1 hw (hP.kept (fun k q hq => hk q.1 ((hP k q hq).lt) (fun z => z.elim (fun z => z.elim) (fun z => absurd ((hP k q hq).lt) (Nat.not_lt.mpr z))))) hS1)
theorem g0d {post : UInt64 → Unit → Prop} {B : Unit → State → Prop} (hr : va_Run p l e R s m args below meth c H locs cells slots 0 0 (F0 m pc ls st0) rest (va_Qd post B (gA gF H.size) av) (gA gF H.size)) (hP : va_P D cl ws H) (hS : va_S (gA A0 s.heap.size) s.heap H locs)
    (kk : ∀ (r : UInt64) (H1 : Heap) (locs1 : List Loc), post r () → va_P D cl ws H1 → va_S (gA A0 s.heap.size) s.heap H1 locs1 → W p l e R s m args below meth c H1 locs1 cells slots Q (F0 m (pc + 3) ls (.double r :: rest))) : W p l e R s m args below meth c H locs cells slots Q (F0 m pc ls st0) :=
  va_calld hr hS (fun q _ h => gF_sub hS.1 q h) (fun q h => gF_sub hS.1 q h) (fun r u t H1 locs1 ht _ hw hB _ hk hS1 => kk r H1 locs1 hw (hP.kept (fun k q hq => hk q.1 ((hP k q hq).lt) (fun z => z.elim (fun z => z.elim) (fun z => absurd ((hP k q hq).lt) (Nat.not_lt.mpr z))))) hS1)
-- ends
theorem gri {post : Int32 → σ → Prop} {v : Int32} {u : σ} (hexec : p.tables.exec = Jvm.exec) (hb : c.code = cc) (hr : meth.sig.returnType = some .int) (hlocks : meth.locks = false) (hS : va_S (gA A0 s.heap.size) s.heap H locs) (hP : va_P D vwCl (wd u) H) (hdg : decode cc pc = .ok (.ireturn, 1)) (hpost : post v u) :
    W p l e R s m args below meth c H locs cells slots (MQ below (va_Qi post (gB D wd) (gA A0 s.heap.size)) args s cells slots (gA A0 s.heap.size)) (F0 m pc ls [.int v]) :=
  W.iret hexec hb hr (fun t ht _ => ⟨⟨v, u, rfl, hpost, by subst ht; exact hP⟩, hS.F ht⟩) hS.2.2 hdg hlocks
theorem grz {post : Int32 → σ → Prop} {v : Int32} {u : σ} (hexec : p.tables.exec = Jvm.exec) (hb : c.code = cc) (hr : meth.sig.returnType = some .boolean) (hlocks : meth.locks = false) (hS : va_S (gA A0 s.heap.size) s.heap H locs) (hP : va_P D vwCl (wd u) H) (hdg : decode cc pc = .ok (.ireturn, 1)) (hz : v = nI 0 ∨ v = nI 1) (hpost : post v u) :
    W p l e R s m args below meth c H locs cells slots (MQ below (va_Qi post (gB D wd) (gA A0 s.heap.size)) args s cells slots (gA A0 s.heap.size)) (F0 m pc ls [.int v]) :=
  W.zret (ty := .boolean) hexec hb hr (by rcases hz with rfl | rfl <;> rfl) (fun t ht _ => ⟨⟨v, u, rfl, hpost, by subst ht; exact hP⟩, hS.F ht⟩) hS.2.2 hdg hlocks
theorem grd {post : UInt64 → σ → Prop} {v : UInt64} {u : σ} (hexec : p.tables.exec = Jvm.exec) (hb : c.code = cc) (hr : meth.sig.returnType = some .double) (hlocks : meth.locks = false) (hS : va_S (gA A0 s.heap.size) s.heap H locs) (hP : va_P D vwCl (wd u) H) (hdg : decode cc pc = .ok (.dreturn, 1)) (hpost : post v u) :
    W p l e R s m args below meth c H locs cells slots (MQ below (va_Qd post (gB D wd) (gA A0 s.heap.size)) args s cells slots (gA A0 s.heap.size)) (F0 m pc ls [.double v]) :=
  W.dret hexec hb hr (fun t ht _ => ⟨⟨v, u, rfl, hpost, by subst ht; exact hP⟩, hS.F ht⟩) hS.2.2 hdg hlocks
theorem grv {post : σ → Prop} {u : σ} (hexec : p.tables.exec = Jvm.exec) (hb : c.code = cc) (hr : meth.sig.returnType = none) (hlocks : meth.locks = false) (hS : va_S (gA A0 s.heap.size) s.heap H locs) (hP : va_P D vwCl (wd u) H) (hdg : decode cc pc = .ok (.return_, 1)) (hpost : post u) :
    W p l e R s m args below meth c H locs cells slots (MQ below (va_Qv post (gB D wd) (gA A0 s.heap.size)) args s cells slots (gA A0 s.heap.size)) (F0 m pc ls []) :=
  W.vret hexec hb hr (fun t ht _ => ⟨⟨u, rfl, hpost, by subst ht; exact hP⟩, hS.F ht⟩) hS.2.2 hdg hlocks
-- arrays at an index nI j
theorem xdl (hexec : p.tables.exec = Jvm.exec) (hb : c.code = cc) (hK : va_K D cl tys s) (hP : va_P D cl ws H) (q0 t0 : Nat) {cA : ClassId} {n : Nat} {f : Nat → UInt64} (ha : ws[q0]? = some (a, .inl (cA, n, .inr (.inr (.inr (.inl f)))))) (ht : tys[t0]? = some (cA, .double)) {j : Nat} (hn : n < 2 ^ 31) (hj : j < n) (hdg : decode cc pc = .ok (.daload, 1))
    (kk : W p l e R s m args below meth c H locs cells slots Q (F0 m (pc + 1) ls (.double (f j) :: rest))) : W p l e R s m args below meth c H locs cells slots Q (F0 m pc ls (.int (nI j) :: .ref a :: rest)) :=
  va_dald hexec hb hK hP q0 t0 ha ht (vp_in_nI hj hn) hdg (by rw [nI_clamp (Nat.lt_trans hj hn)]; exact kk)
theorem xil (hexec : p.tables.exec = Jvm.exec) (hb : c.code = cc) (hK : va_K D cl tys s) (hP : va_P D cl ws H) (q0 t0 : Nat) {cA : ClassId} {n : Nat} {f : Nat → Int32} (ha : ws[q0]? = some (a, .inl (cA, n, .inl f))) (ht : tys[t0]? = some (cA, .int)) {j : Nat} (hn : n < 2 ^ 31) (hj : j < n) (hdg : decode cc pc = .ok (.iaload, 1))
    (kk : W p l e R s m args below meth c H locs cells slots Q (F0 m (pc + 1) ls (.int (f j) :: rest))) : W p l e R s m args below meth c H locs cells slots Q (F0 m pc ls (.int (nI j) :: .ref a :: rest)) :=
  va_iald hexec hb hK hP q0 t0 ha ht (vp_in_nI hj hn) hdg (by rw [nI_clamp (Nat.lt_trans hj hn)]; exact kk)
theorem xzl (hexec : p.tables.exec = Jvm.exec) (hb : c.code = cc) (hK : va_K D cl tys s) (hP : va_P D cl ws H) (q0 t0 : Nat) {cA : ClassId} {n : Nat} {f : Nat → Int32} (ha : ws[q0]? = some (a, .inl (cA, n, .inl f))) (ht : tys[t0]? = some (cA, .boolean)) {j : Nat} (hn : n < 2 ^ 31) (hj : j < n) (hdg : decode cc pc = .ok (.baload, 1))
    (kk : W p l e R s m args below meth c H locs cells slots Q (F0 m (pc + 1) ls (.int (f j) :: rest))) : W p l e R s m args below meth c H locs cells slots Q (F0 m pc ls (.int (nI j) :: .ref a :: rest)) :=
  va_zald hexec hb hK hP q0 t0 ha ht (vp_in_nI hj hn) hdg (by rw [nI_clamp (Nat.lt_trans hj hn)]; exact kk)
theorem xal (hexec : p.tables.exec = Jvm.exec) (hb : c.code = cc) (hK : va_K D cl tys s) (hP : va_P D cl ws H) (q0 t0 : Nat) {cA : ClassId} {n : Nat} {f : Nat → Option Nat} (ha : ws[q0]? = some (a, .inl (cA, n, .inr (.inr (.inr (.inr f)))))) (ht : tys[t0]? = some (cA, .array .double)) {j v : Nat} (hn : n < 2 ^ 31) (hj : j < n) (hv : f j = some v) (hdg : decode cc pc = .ok (.aaload, 1))
    (kk : W p l e R s m args below meth c H locs cells slots Q (F0 m (pc + 1) ls (.ref v :: rest))) : W p l e R s m args below meth c H locs cells slots Q (F0 m pc ls (.int (nI j) :: .ref a :: rest)) := by
  have e0 : (nI j).toNatClampNeg = j := nI_clamp (Nat.lt_trans hj hn)
  refine W.aald (v := .ref v) (ty := .array .double) hexec hb (hP q0 _ ha) ((hK.2 t0 _ ht).1 n (fun j => va_rf (f j))) rfl (fun q => by cases q) (by show ¬ (nI j < 0 ∨ (arrV _ _ _).slots.size ≤ _); rw [arrV_size]; exact vp_in_nI hj hn) ?_ rfl rfl hdg kk
  show (arrV _ _ _).slots[_]? = _
  rw [e0, arrV_read _ _ hj]
  show some (va_rf (f j)) = _
  rw [hv]
  rfl
theorem xds (hexec : p.tables.exec = Jvm.exec) (hb : c.code = cc) (hK : va_K D cl tys s) (hD : ∀ u : σ, va_D A (wd u)) {S : σ} (hP : va_P D cl (wd S) H) (hS : va_S A H0 H locs) (q0 t0 : Nat) (S' : σ) {cA : ClassId} {n : Nat} {f : Nat → UInt64} (ha : (wd S)[q0]? = some (a, .inl (cA, n, .inr (.inr (.inr (.inl f)))))) (ht : tys[t0]? = some (cA, .double)) {j : Nat} {x : UInt64} (hn : n < 2 ^ 31) (hj : j < n) (hset : (wd S).set q0 (a, .inl (cA, n, .inr (.inr (.inr (.inl (vf_upd f j x)))))) = wd S') (hdg : decode cc pc = .ok (.dastore, 1))
    (kk : ∀ (H1 : Heap) (locs1 : List Loc), va_P D cl (wd S') H1 → va_S A H0 H1 locs1 → W p l e R s m args below meth c H1 locs1 cells slots Q (F0 m (pc + 1) ls rest)) : W p l e R s m args below meth c H locs cells slots Q (F0 m pc ls (.double x :: .int (nI j) :: .ref a :: rest)) :=
  va_dast hexec hb hK hP (hD S) hS q0 t0 ha ht (vp_in_nI hj hn) hdg (fun H1 locs1 hP1 _ hS1 => kk H1 locs1 (by rw [nI_clamp (Nat.lt_trans hj hn), hset] at hP1; exact hP1) hS1)
theorem xis (hexec : p.tables.exec = Jvm.exec) (hb : c.code = cc) (hK : va_K D cl tys s) (hD : ∀ u : σ, va_D A (wd u)) {S : σ} (hP : va_P D cl (wd S) H) (hS : va_S A H0 H locs) (q0 t0 : Nat) (S' : σ) {cA : ClassId} {n : Nat} {f : Nat → Int32} (ha : (wd S)[q0]? = some (a, .inl (cA, n, .inl f))) (ht : tys[t0]? = some (cA, .int)) {j : Nat} {x : Int32} (hn : n < 2 ^ 31) (hj : j < n) (hset : (wd S).set q0 (a, .inl (cA, n, .inl (upd f j x))) = wd S') (hdg : decode cc pc = .ok (.iastore, 1))
    (kk : ∀ (H1 : Heap) (locs1 : List Loc), va_P D cl (wd S') H1 → va_S A H0 H1 locs1 → W p l e R s m args below meth c H1 locs1 cells slots Q (F0 m (pc + 1) ls rest)) : W p l e R s m args below meth c H locs cells slots Q (F0 m pc ls (.int x :: .int (nI j) :: .ref a :: rest)) :=
  va_iast hexec hb hK hP (hD S) hS q0 t0 ha ht (vp_in_nI hj hn) hdg (fun H1 locs1 hP1 _ hS1 => kk H1 locs1 (by rw [nI_clamp (Nat.lt_trans hj hn), hset] at hP1; exact hP1) hS1)
theorem xzs (hexec : p.tables.exec = Jvm.exec) (hb : c.code = cc) (hK : va_K D cl tys s) (hD : ∀ u : σ, va_D A (wd u)) {S : σ} (hP : va_P D cl (wd S) H) (hS : va_S A H0 H locs) (q0 t0 : Nat) (S' : σ) {cA : ClassId} {n : Nat} {f : Nat → Int32} (ha : (wd S)[q0]? = some (a, .inl (cA, n, .inl f))) (ht : tys[t0]? = some (cA, .boolean)) {j : Nat} {x : Int32} (hn : n < 2 ^ 31) (hj : j < n) (hset : (wd S).set q0 (a, .inl (cA, n, .inl (upd f j (vp_nar .boolean x)))) = wd S') (hdg : decode cc pc = .ok (.bastore, 1))
    (kk : ∀ (H1 : Heap) (locs1 : List Loc), va_P D cl (wd S') H1 → va_S A H0 H1 locs1 → W p l e R s m args below meth c H1 locs1 cells slots Q (F0 m (pc + 1) ls rest)) : W p l e R s m args below meth c H locs cells slots Q (F0 m pc ls (.int x :: .int (nI j) :: .ref a :: rest)) :=
  va_zast hexec hb hK hP (hD S) hS q0 t0 ha ht (vp_in_nI hj hn) hdg (fun H1 locs1 hP1 _ hS1 => kk H1 locs1 (by rw [nI_clamp (Nat.lt_trans hj hn), hset] at hP1; exact hP1) hS1)
theorem xput (hexec : p.tables.exec = Jvm.exec) (hb : c.code = cc) {own ref C : String} {T : u_T} {N ci index : Nat} {Ts : List Cond} (hts : ∀ w ∈ Ts, w.before args s = true) (hin : ∀ w ∈ u_ws C T N, w ∈ Ts) (ty0 : Nat → FieldType) (hty : ∀ k, k < N → parseFieldDescriptor (T k).2.2.1 = some (ty0 k)) (hnm : ∀ a, a < N → ∀ b, b < N → a ≠ b → (T a).2.1 ≠ (T b).2.1) (hown : s.vm.findClass own = some m.cls) (hK : va_K D cl tys s) (hD : ∀ u : σ, va_D A (wd u)) {S : σ} (hP : va_P D cl (wd S) H) (hS : va_S A H0 H locs) (q0 : Nat) (S' : σ) {fs : List Value} (he : (wd S)[q0]? = some (a, .inr (ci, fs))) (hc : cl[ci]? = some (C, T, N)) (k : Nat) (hk : k < N) (hlink : (Cond.fieldLink own index ref (T k).2.1 (T k).2.2.1).before args s = true) (hsame : ∀ x, s.fieldFound? (T k).1 (T k).2.1 (T k).2.2.1 = some x → s.fieldFound? ref (T k).2.1 (T k).2.2.1 = some x)
    (hfin : (T k).2.2.2 = false) {ty : FieldType} {v : Value} (hd : parseFieldDescriptor (T k).2.2.1 = some ty) (hn : narrow ty v = v) (hfit : fits ty v = true) (hl : k < fs.length) (hset : (wd S).set q0 (a, .inr (ci, fs.set k v)) = wd S') (hdg : decode cc pc = .ok (.putfield index, 3))
    (kk : ∀ (H1 : Heap) (locs1 : List Loc), va_P D cl (wd S') H1 → va_S A H0 H1 locs1 → W p l e R s m args below meth c H1 locs1 cells slots Q (F0 m (pc + 3) ls rest)) : W p l e R s m args below meth c H locs cells slots Q (F0 m pc ls (v :: .ref a :: rest)) :=
  va_put hexec hb hts hin ty0 hty hnm hown hK hP (hD S) hS q0 he hc k hk hlink hsame hfin hd hn hfit hl hdg (fun H1 locs1 hP1 _ hS1 => kk H1 locs1 (by rw [hset] at hP1; exact hP1) hS1)
-- ints that are nI of a Nat
theorem xia (hexec : p.tables.exec = Jvm.exec) (hb : c.code = cc) {x y : Nat} (z : Nat) (hdg : decode cc pc = .ok (.iadd, 1)) (hz : x + y = z) (k : W p l e R s m args below meth c H locs cells slots Q (F0 m (pc + 1) ls (.int (nI z) :: rest))) : W p l e R s m args below meth c H locs cells slots Q (F0 m pc ls (.int (nI y) :: .int (nI x) :: rest)) :=
  lv_iadd hexec hb hdg (by rw [nI_add, hz]; exact k)
theorem xib (hexec : p.tables.exec = Jvm.exec) (hb : c.code = cc) {x y : Nat} (z : Nat) (hdg : decode cc pc = .ok (.isub, 1)) (hz : x = z + y) (k : W p l e R s m args below meth c H locs cells slots Q (F0 m (pc + 1) ls (.int (nI z) :: rest))) : W p l e R s m args below meth c H locs cells slots Q (F0 m pc ls (.int (nI y) :: .int (nI x) :: rest)) :=
  lv_isub hexec hb hdg (by rw [pk_sub (by omega), show x - y = z by omega]; exact k)
theorem xim (hexec : p.tables.exec = Jvm.exec) (hb : c.code = cc) {x y : Nat} (z : Nat) (hdg : decode cc pc = .ok (.imul, 1)) (hz : x * y = z) (k : W p l e R s m args below meth c H locs cells slots Q (F0 m (pc + 1) ls (.int (nI z) :: rest))) : W p l e R s m args below meth c H locs cells slots Q (F0 m pc ls (.int (nI y) :: .int (nI x) :: rest)) :=
  lv_imul hexec hb hdg (by rw [pk_mul, hz]; exact k)
-- compares of doubles, with their branch
theorem xc_gle (hexec : p.tables.exec = Jvm.exec) (hb : c.code = cc) {x y : UInt64} {off : Int} {tgt : Nat} (hdg : decode cc pc = .ok (.dcmp .g, 1)) (hdg2 : decode cc (pc + 1) = .ok (.ifCond .gt off, 3)) (ht : ((pc + 1 : Nat) : Int) + off = (tgt : Int)) (kt : ¬ dle x y → W p l e R s m args below meth c H locs cells slots Q (F0 m tgt ls rest)) (kf : dle x y → W p l e R s m args below meth c H locs cells slots Q (F0 m (pc + 4) ls rest)) : W p l e R s m args below meth c H locs cells slots Q (F0 m pc ls (.double y :: .double x :: rest)) := by
  refine lv_dcmp hexec hb hdg (lv_if_gt (tgt := tgt) hexec hb hdg2 ht (fun h => kt (fun q => ?_)) (fun h => kf ?_))
  · rcases q with q | q <;> rw [q] at h <;> exact absurd h (by decide)
  · show dle x y
    unfold dle
    rcases hq : FP.dcmp x y with _ | (_ | _ | _) <;> rw [hq] at h <;> first | (exact absurd (by decide) h) | simp
theorem xc_glt (hexec : p.tables.exec = Jvm.exec) (hb : c.code = cc) {x y : UInt64} {off : Int} {tgt : Nat} (hdg : decode cc pc = .ok (.dcmp .g, 1)) (hdg2 : decode cc (pc + 1) = .ok (.ifCond .ge off, 3)) (ht : ((pc + 1 : Nat) : Int) + off = (tgt : Int)) (kt : ¬ dlt x y → W p l e R s m args below meth c H locs cells slots Q (F0 m tgt ls rest)) (kf : dlt x y → W p l e R s m args below meth c H locs cells slots Q (F0 m (pc + 4) ls rest)) : W p l e R s m args below meth c H locs cells slots Q (F0 m pc ls (.double y :: .double x :: rest)) := by
  refine lv_dcmp hexec hb hdg (lv_if_ge (tgt := tgt) hexec hb hdg2 ht (fun h => kt (fun q => ?_)) (fun h => kf ?_))
  · rw [show FP.dcmp x y = some .lt from q] at h; exact absurd h (by decide)
  · show dlt x y
    unfold dlt
    rcases hq : FP.dcmp x y with _ | (_ | _ | _) <;> rw [hq] at h <;> first | (exact absurd (by decide) h) | simp
theorem xc_lge (hexec : p.tables.exec = Jvm.exec) (hb : c.code = cc) {x y : UInt64} {off : Int} {tgt : Nat} (hdg : decode cc pc = .ok (.dcmp .l, 1)) (hdg2 : decode cc (pc + 1) = .ok (.ifCond .lt off, 3)) (ht : ((pc + 1 : Nat) : Int) + off = (tgt : Int)) (kt : ¬ dge x y → W p l e R s m args below meth c H locs cells slots Q (F0 m tgt ls rest)) (kf : dge x y → W p l e R s m args below meth c H locs cells slots Q (F0 m (pc + 4) ls rest)) : W p l e R s m args below meth c H locs cells slots Q (F0 m pc ls (.double y :: .double x :: rest)) := by
  refine lv_dcmp hexec hb hdg (lv_if_lt (tgt := tgt) hexec hb hdg2 ht (fun h => kt (fun q => ?_)) (fun h => kf ?_))
  · rcases q with q | q <;> rw [q] at h <;> exact absurd h (by decide)
  · show dge x y
    unfold dge
    rcases hq : FP.dcmp x y with _ | (_ | _ | _) <;> rw [hq] at h <;> first | (exact absurd (by decide) h) | simp
theorem xc_lgt (hexec : p.tables.exec = Jvm.exec) (hb : c.code = cc) {x y : UInt64} {off : Int} {tgt : Nat} (hdg : decode cc pc = .ok (.dcmp .l, 1)) (hdg2 : decode cc (pc + 1) = .ok (.ifCond .le off, 3)) (ht : ((pc + 1 : Nat) : Int) + off = (tgt : Int)) (kt : ¬ dgt x y → W p l e R s m args below meth c H locs cells slots Q (F0 m tgt ls rest)) (kf : dgt x y → W p l e R s m args below meth c H locs cells slots Q (F0 m (pc + 4) ls rest)) : W p l e R s m args below meth c H locs cells slots Q (F0 m pc ls (.double y :: .double x :: rest)) := by
  refine lv_dcmp hexec hb hdg (lv_if_le (tgt := tgt) hexec hb hdg2 ht (fun h => kt (fun q => ?_)) (fun h => kf ?_))
  · rw [show FP.dcmp x y = some .gt from q] at h; exact absurd h (by decide)
  · show dgt x y
    unfold dgt
    rcases hq : FP.dcmp x y with _ | (_ | _ | _) <;> rw [hq] at h <;> first | (exact absurd (by decide) h) | simp
theorem xc_lgp (hexec : p.tables.exec = Jvm.exec) (hb : c.code = cc) {x y : UInt64} {off : Int} {tgt : Nat} (hdg : decode cc pc = .ok (.dcmp .l, 1)) (hdg2 : decode cc (pc + 1) = .ok (.ifCond .gt off, 3)) (ht : ((pc + 1 : Nat) : Int) + off = (tgt : Int)) (kt : dgt x y → W p l e R s m args below meth c H locs cells slots Q (F0 m tgt ls rest)) (kf : ¬ dgt x y → W p l e R s m args below meth c H locs cells slots Q (F0 m (pc + 4) ls rest)) : W p l e R s m args below meth c H locs cells slots Q (F0 m pc ls (.double y :: .double x :: rest)) := by
  refine lv_dcmp hexec hb hdg (lv_if_gt (tgt := tgt) hexec hb hdg2 ht (fun h => kt ?_) (fun h => kf (fun q => ?_)))
  · show dgt x y
    unfold dgt
    rcases hq : FP.dcmp x y with _ | (_ | _ | _) <;> rw [hq] at h <;> first | (exact absurd h (by decide)) | simp
  · rw [show FP.dcmp x y = some .gt from q] at h; exact absurd (by decide) h
theorem xc_leq (hexec : p.tables.exec = Jvm.exec) (hb : c.code = cc) {x y : UInt64} {off : Int} {tgt : Nat} (hdg : decode cc pc = .ok (.dcmp .l, 1)) (hdg2 : decode cc (pc + 1) = .ok (.ifCond .ne off, 3)) (ht : ((pc + 1 : Nat) : Int) + off = (tgt : Int)) (kt : ¬ deq x y → W p l e R s m args below meth c H locs cells slots Q (F0 m tgt ls rest)) (kf : deq x y → W p l e R s m args below meth c H locs cells slots Q (F0 m (pc + 4) ls rest)) : W p l e R s m args below meth c H locs cells slots Q (F0 m pc ls (.double y :: .double x :: rest)) := by
  refine lv_dcmp hexec hb hdg (lv_if_ne (tgt := tgt) hexec hb hdg2 ht (fun h => kt (fun q => ?_)) (fun h => kf ?_))
  · rw [show FP.dcmp x y = some .eq from q] at h; exact absurd h (by decide)
  · show deq x y
    unfold deq
    rcases hq : FP.dcmp x y with _ | (_ | _ | _) <;> rw [hq] at h <;> first | (exact absurd h (by decide)) | simp
theorem xc_lne (hexec : p.tables.exec = Jvm.exec) (hb : c.code = cc) {x y : UInt64} {off : Int} {tgt : Nat} (hdg : decode cc pc = .ok (.dcmp .l, 1)) (hdg2 : decode cc (pc + 1) = .ok (.ifCond .eq off, 3)) (ht : ((pc + 1 : Nat) : Int) + off = (tgt : Int)) (kt : deq x y → W p l e R s m args below meth c H locs cells slots Q (F0 m tgt ls rest)) (kf : ¬ deq x y → W p l e R s m args below meth c H locs cells slots Q (F0 m (pc + 4) ls rest)) : W p l e R s m args below meth c H locs cells slots Q (F0 m pc ls (.double y :: .double x :: rest)) := by
  refine lv_dcmp hexec hb hdg (lv_if_eq (tgt := tgt) hexec hb hdg2 ht (fun h => kt ?_) (fun h => kf (fun q => ?_)))
  · show deq x y
    unfold deq
    rcases hq : FP.dcmp x y with _ | (_ | _ | _) <;> rw [hq] at h <;> first | (exact absurd h (by decide)) | simp
  · rw [show FP.dcmp x y = some .eq from q] at h; exact absurd (by decide) h
end GW
theorem gMi {σ : Type} {D : va_G} {wd : σ → va_W} {E : State → Prop} {S : σ} {sz : Nat} {av : List Value} {A0 : Nat → Prop} {l : Launch} {y : MethodName} {ws ws' : List Cond} {rm : Room} {cc : ByteArray} {maxL : Nat} {post : Int32 → σ → Prop}
    (hy : plainFor y = true) (hw : ws = Cond.code y cc maxL (some .int) :: ws') (hal : (lg_sl av).length ≤ maxL)
    (body : ∀ (p : Program) (e : Env) (s : State) (m : MethodId) (below : List Frame) (meth : Method) (c : Code) (Q : State → Prop), p.tables.exec = Jvm.exec → c.code = cc → (∀ w ∈ ws, w.before av.toArray s = true) → s.vm.findClass y.cls = some m.cls → c.maxLocals = maxL → s.heap.size = sz → E s →
      (∀ {H : Heap} {locs : List Loc} {v : Int32} {u : σ} {pc : Nat} {ls : Array Slot}, va_S (gA A0 s.heap.size) s.heap H locs → va_P D vwCl (wd u) H → decode cc pc = .ok (.ireturn, 1) → post v u → W p l e rm s m av.toArray below meth c H locs 0 0 Q (F0 m pc ls [.int v])) →
      ∀ (H : Heap) (locs : List Loc), va_P D vwCl (wd S) H → va_S (gA A0 s.heap.size) s.heap H locs → ∀ ls : Array Slot, lv_has ls maxL (lv_args 0 av) → W p l e rm s m av.toArray below meth c H locs 0 0 Q (F0 m 0 ls [])) : Met l y ws rm (gP D wd E S sz av) (va_Qi post (gB D wd) (gA A0 sz)) 0 0 (gA A0 sz) := by
  refine gMet hy hw hal ?_
  intro p e s m below meth c hx hb hr hts hown hlocks hml hnm hsz hP hE ls hl
  subst hsz
  exact body p e s m below meth c _ hx hb hts hown hml rfl hE (fun hS hP1 hdg hp => gri hx hb hr hlocks hS hP1 hdg hp) s.heap [] hP va_S.rf ls hl
theorem gMz {σ : Type} {D : va_G} {wd : σ → va_W} {E : State → Prop} {S : σ} {sz : Nat} {av : List Value} {A0 : Nat → Prop} {l : Launch} {y : MethodName} {ws ws' : List Cond} {rm : Room} {cc : ByteArray} {maxL : Nat} {post : Int32 → σ → Prop}
    (hy : plainFor y = true) (hw : ws = Cond.code y cc maxL (some .boolean) :: ws') (hal : (lg_sl av).length ≤ maxL)
    (body : ∀ (p : Program) (e : Env) (s : State) (m : MethodId) (below : List Frame) (meth : Method) (c : Code) (Q : State → Prop), p.tables.exec = Jvm.exec → c.code = cc → (∀ w ∈ ws, w.before av.toArray s = true) → s.vm.findClass y.cls = some m.cls → c.maxLocals = maxL → s.heap.size = sz → E s →
      (∀ {H : Heap} {locs : List Loc} {v : Int32} {u : σ} {pc : Nat} {ls : Array Slot}, va_S (gA A0 s.heap.size) s.heap H locs → va_P D vwCl (wd u) H → decode cc pc = .ok (.ireturn, 1) → (v = nI 0 ∨ v = nI 1) → post v u → W p l e rm s m av.toArray below meth c H locs 0 0 Q (F0 m pc ls [.int v])) →
      ∀ (H : Heap) (locs : List Loc), va_P D vwCl (wd S) H → va_S (gA A0 s.heap.size) s.heap H locs → ∀ ls : Array Slot, lv_has ls maxL (lv_args 0 av) → W p l e rm s m av.toArray below meth c H locs 0 0 Q (F0 m 0 ls [])) : Met l y ws rm (gP D wd E S sz av) (va_Qi post (gB D wd) (gA A0 sz)) 0 0 (gA A0 sz) := by
  refine gMet hy hw hal ?_
  intro p e s m below meth c hx hb hr hts hown hlocks hml hnm hsz hP hE ls hl
  subst hsz
  exact body p e s m below meth c _ hx hb hts hown hml rfl hE (fun hS hP1 hdg hz hp => grz hx hb hr hlocks hS hP1 hdg hz hp) s.heap [] hP va_S.rf ls hl
theorem gMd {σ : Type} {D : va_G} {wd : σ → va_W} {E : State → Prop} {S : σ} {sz : Nat} {av : List Value} {A0 : Nat → Prop} {l : Launch} {y : MethodName} {ws ws' : List Cond} {rm : Room} {cc : ByteArray} {maxL : Nat} {post : UInt64 → σ → Prop}
    (hy : plainFor y = true) (hw : ws = Cond.code y cc maxL (some .double) :: ws') (hal : (lg_sl av).length ≤ maxL)
    (body : ∀ (p : Program) (e : Env) (s : State) (m : MethodId) (below : List Frame) (meth : Method) (c : Code) (Q : State → Prop), p.tables.exec = Jvm.exec → c.code = cc → (∀ w ∈ ws, w.before av.toArray s = true) → s.vm.findClass y.cls = some m.cls → c.maxLocals = maxL → s.heap.size = sz → E s →
      (∀ {H : Heap} {locs : List Loc} {v : UInt64} {u : σ} {pc : Nat} {ls : Array Slot}, va_S (gA A0 s.heap.size) s.heap H locs → va_P D vwCl (wd u) H → decode cc pc = .ok (.dreturn, 1) → post v u → W p l e rm s m av.toArray below meth c H locs 0 0 Q (F0 m pc ls [.double v])) →
      ∀ (H : Heap) (locs : List Loc), va_P D vwCl (wd S) H → va_S (gA A0 s.heap.size) s.heap H locs → ∀ ls : Array Slot, lv_has ls maxL (lv_args 0 av) → W p l e rm s m av.toArray below meth c H locs 0 0 Q (F0 m 0 ls [])) : Met l y ws rm (gP D wd E S sz av) (va_Qd post (gB D wd) (gA A0 sz)) 0 0 (gA A0 sz) := by
  refine gMet hy hw hal ?_
  intro p e s m below meth c hx hb hr hts hown hlocks hml hnm hsz hP hE ls hl
  subst hsz
  exact body p e s m below meth c _ hx hb hts hown hml rfl hE (fun hS hP1 hdg hp => grd hx hb hr hlocks hS hP1 hdg hp) s.heap [] hP va_S.rf ls hl
theorem gMv {σ : Type} {D : va_G} {wd : σ → va_W} {E : State → Prop} {S : σ} {sz : Nat} {av : List Value} {A0 : Nat → Prop} {l : Launch} {y : MethodName} {ws ws' : List Cond} {rm : Room} {cc : ByteArray} {maxL : Nat} {post : σ → Prop}
    (hy : plainFor y = true) (hw : ws = Cond.code y cc maxL none :: ws') (hal : (lg_sl av).length ≤ maxL)
    (body : ∀ (p : Program) (e : Env) (s : State) (m : MethodId) (below : List Frame) (meth : Method) (c : Code) (Q : State → Prop), p.tables.exec = Jvm.exec → c.code = cc → (∀ w ∈ ws, w.before av.toArray s = true) → s.vm.findClass y.cls = some m.cls → c.maxLocals = maxL → s.heap.size = sz → E s →
      (∀ {H : Heap} {locs : List Loc} {u : σ} {pc : Nat} {ls : Array Slot}, va_S (gA A0 s.heap.size) s.heap H locs → va_P D vwCl (wd u) H → decode cc pc = .ok (.return_, 1) → post u → W p l e rm s m av.toArray below meth c H locs 0 0 Q (F0 m pc ls [])) →
      ∀ (H : Heap) (locs : List Loc), va_P D vwCl (wd S) H → va_S (gA A0 s.heap.size) s.heap H locs → ∀ ls : Array Slot, lv_has ls maxL (lv_args 0 av) → W p l e rm s m av.toArray below meth c H locs 0 0 Q (F0 m 0 ls [])) : Met l y ws rm (gP D wd E S sz av) (va_Qv post (gB D wd) (gA A0 sz)) 0 0 (gA A0 sz) := by
  refine gMet hy hw hal ?_
  intro p e s m below meth c hx hb hr hts hown hlocks hml hnm hsz hP hE ls hl
  subst hsz
  exact body p e s m below meth c _ hx hb hts hown hml rfl hE (fun hS hP1 hdg hp => grv hx hb hr hlocks hS hP1 hdg hp) s.heap [] hP va_S.rf ls hl
